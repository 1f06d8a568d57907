theorem cb_X12_actsOf : j_CB yX12_actsOf cX12_actsOf 3 none 1 := ⟨by decide +kernel, j_in 1502 (by decide +kernel) (by decide +kernel), j_in 114 (by decide +kernel) (by decide +kernel), by decide +kernel, by decide +kernel, by decide +kernel⟩
theorem cvRX12_352 : j_CV RX12 352 yX12_actsOf := ⟨Or.inl (j_in 1499 (by decide +kernel) (by decide +kernel)), j_in 1501 (by decide +kernel) (by decide +kernel), j_in 63 (by decide +kernel) (by decide +kernel)⟩
theorem cb_X12_draw : j_CB yX12_draw cX12_draw 2 (some .int) 1 := ⟨by decide +kernel, j_in 1506 (by decide +kernel) (by decide +kernel), j_in 114 (by decide +kernel) (by decide +kernel), by decide +kernel, by decide +kernel, by decide +kernel⟩
theorem cvRX12_355 : j_CV RX12 355 yX12_draw := ⟨Or.inl (j_in 1503 (by decide +kernel) (by decide +kernel)), j_in 1505 (by decide +kernel) (by decide +kernel), j_in 64 (by decide +kernel) (by decide +kernel)⟩
theorem fRX12_431 : j_F RX12 431 7 3 := ⟨RX12, TX12, 32, rfl, by decide, ws_in7, j_in 1180 (by decide +kernel) (by decide +kernel)⟩
theorem fp_7_3 : j_FP 7 3 .boolean := ⟨RX12, TX12, 32, tyX12, rfl, tyX12_ok, nmX12, rfl, by decide +kernel⟩
theorem fRX12_13 : j_F RX12 13 7 1 := ⟨RX12, TX12, 32, rfl, by decide, ws_in7, j_in 1178 (by decide +kernel) (by decide +kernel)⟩
theorem cb_X12_onTheWay : j_CB yX12_onTheWay cX12_onTheWay 3 (some .int) 0 := ⟨by decide +kernel, j_in 1806 (by decide +kernel) (by decide +kernel), j_in 114 (by decide +kernel) (by decide +kernel), by decide +kernel, by decide +kernel, by decide +kernel⟩
theorem cvRX12_434 : j_CV RX12 434 yX12_onTheWay := ⟨Or.inl (j_in 1803 (by decide +kernel) (by decide +kernel)), j_in 1805 (by decide +kernel) (by decide +kernel), j_in 104 (by decide +kernel) (by decide +kernel)⟩
theorem cb_X12_missing : j_CB yX12_missing cX12_missing 3 (some .int) 0 := ⟨by decide +kernel, j_in 1810 (by decide +kernel) (by decide +kernel), j_in 114 (by decide +kernel) (by decide +kernel), by decide +kernel, by decide +kernel, by decide +kernel⟩
theorem cvRX12_437 : j_CV RX12 437 yX12_missing := ⟨Or.inl (j_in 1807 (by decide +kernel) (by decide +kernel)), j_in 1809 (by decide +kernel) (by decide +kernel), j_in 105 (by decide +kernel) (by decide +kernel)⟩
theorem cb_X12_load : j_CB yX12_load cX12_load 3 (some .int) 2 := ⟨by decide +kernel, j_in 1293 (by decide +kernel) (by decide +kernel), j_in 114 (by decide +kernel) (by decide +kernel), by decide +kernel, by decide +kernel, by decide +kernel⟩
theorem cvRX12_313 : j_CV RX12 313 yX12_load := ⟨Or.inl (j_in 1485 (by decide +kernel) (by decide +kernel)), j_in 1291 (by decide +kernel) (by decide +kernel), j_in 1292 (by decide +kernel) (by decide +kernel)⟩
theorem cb_X12_store : j_CB yX12_store cX12_store 4 (some .int) 3 := ⟨by decide +kernel, j_in 1364 (by decide +kernel) (by decide +kernel), j_in 114 (by decide +kernel) (by decide +kernel), by decide +kernel, by decide +kernel, by decide +kernel⟩
theorem cvRX12_315 : j_CV RX12 315 yX12_store := ⟨Or.inl (j_in 1486 (by decide +kernel) (by decide +kernel)), j_in 1362 (by decide +kernel) (by decide +kernel), j_in 1363 (by decide +kernel) (by decide +kernel)⟩
theorem cb_X12_add : j_CB yX12_add cX12_add 4 (some .int) 3 := ⟨by decide +kernel, j_in 1368 (by decide +kernel) (by decide +kernel), j_in 114 (by decide +kernel) (by decide +kernel), by decide +kernel, by decide +kernel, by decide +kernel⟩
theorem cvRX12_318 : j_CV RX12 318 yX12_add := ⟨Or.inl (j_in 1487 (by decide +kernel) (by decide +kernel)), j_in 1366 (by decide +kernel) (by decide +kernel), j_in 1367 (by decide +kernel) (by decide +kernel)⟩
theorem cb_X12_set : j_CB yX12_set cX12_set 4 (some .boolean) 2 := ⟨by decide +kernel, j_in 1282 (by decide +kernel) (by decide +kernel), j_in 114 (by decide +kernel) (by decide +kernel), by decide +kernel, by decide +kernel, by decide +kernel⟩
theorem cvRX12_333 : j_CV RX12 333 yX12_set := ⟨Or.inl (j_in 1509 (by decide +kernel) (by decide +kernel)), j_in 1280 (by decide +kernel) (by decide +kernel), j_in 1281 (by decide +kernel) (by decide +kernel)⟩
theorem cb_X12_evict : j_CB yX12_evict cX12_evict 3 (some .boolean) 2 := ⟨by decide +kernel, j_in 1372 (by decide +kernel) (by decide +kernel), j_in 114 (by decide +kernel) (by decide +kernel), by decide +kernel, by decide +kernel, by decide +kernel⟩
theorem cvRX12_320 : j_CV RX12 320 yX12_evict := ⟨Or.inl (j_in 1488 (by decide +kernel) (by decide +kernel)), j_in 1370 (by decide +kernel) (by decide +kernel), j_in 1371 (by decide +kernel) (by decide +kernel)⟩
theorem cb_X12_deliversSome : j_CB yX12_deliversSome cX12_deliversSome 4 (some .boolean) 2 := ⟨by decide +kernel, j_in 1492 (by decide +kernel) (by decide +kernel), j_in 114 (by decide +kernel) (by decide +kernel), by decide +kernel, by decide +kernel, by decide +kernel⟩
theorem cvRX12_323 : j_CV RX12 323 yX12_deliversSome := ⟨Or.inl (j_in 1489 (by decide +kernel) (by decide +kernel)), j_in 1491 (by decide +kernel) (by decide +kernel), j_in 62 (by decide +kernel) (by decide +kernel)⟩
theorem cb_X12_tick : j_CB yX12_tick cX12_tick 3 (some .int) 1 := ⟨by decide +kernel, j_in 1440 (by decide +kernel) (by decide +kernel), j_in 114 (by decide +kernel) (by decide +kernel), by decide +kernel, by decide +kernel, by decide +kernel⟩
theorem cvRX12_327 : j_CV RX12 327 yX12_tick := ⟨Or.inl (j_in 1493 (by decide +kernel) (by decide +kernel)), j_in 1438 (by decide +kernel) (by decide +kernel), j_in 1439 (by decide +kernel) (by decide +kernel)⟩
theorem cb_X12_calm : j_CB yX12_calm cX12_calm 4 (some .int) 1 := ⟨by decide +kernel, j_in 1460 (by decide +kernel) (by decide +kernel), j_in 114 (by decide +kernel) (by decide +kernel), by decide +kernel, by decide +kernel, by decide +kernel⟩
theorem cvRX12_329 : j_CV RX12 329 yX12_calm := ⟨Or.inl (j_in 1494 (by decide +kernel) (by decide +kernel)), j_in 1458 (by decide +kernel) (by decide +kernel), j_in 1459 (by decide +kernel) (by decide +kernel)⟩
theorem cb_X12_go : j_CB yX12_go cX12_go 6 (some .int) 2 := ⟨by decide +kernel, j_in 1498 (by decide +kernel) (by decide +kernel), j_in 114 (by decide +kernel) (by decide +kernel), by decide +kernel, by decide +kernel, by decide +kernel⟩
theorem cvRX12_331 : j_CV RX12 331 yX12_go := ⟨Or.inl (j_in 1495 (by decide +kernel) (by decide +kernel)), j_in 1496 (by decide +kernel) (by decide +kernel), j_in 1497 (by decide +kernel) (by decide +kernel)⟩
theorem cb_X12_isDone : j_CB yX12_isDone cX12_isDone 4 (some .boolean) 1 := ⟨by decide +kernel, j_in 1484 (by decide +kernel) (by decide +kernel), j_in 114 (by decide +kernel) (by decide +kernel), by decide +kernel, by decide +kernel, by decide +kernel⟩
theorem cvRX12_336 : j_CV RX12 336 yX12_isDone := ⟨Or.inl (j_in 1481 (by decide +kernel) (by decide +kernel)), j_in 1483 (by decide +kernel) (by decide +kernel), j_in 61 (by decide +kernel) (by decide +kernel)⟩
theorem fRX12_16 : j_F RX12 16 7 2 := ⟨RX12, TX12, 32, rfl, by decide, ws_in7, j_in 1179 (by decide +kernel) (by decide +kernel)⟩
theorem cb_X12_keeps : j_CB yX12_keeps cX12_keeps 2 none 0 := ⟨by decide +kernel, j_in 1734 (by decide +kernel) (by decide +kernel), j_in 114 (by decide +kernel) (by decide +kernel), by decide +kernel, by decide +kernel, by decide +kernel⟩
theorem cvRX12_377 : j_CV RX12 377 yX12_keeps := ⟨Or.inl (j_in 1731 (by decide +kernel) (by decide +kernel)), j_in 1733 (by decide +kernel) (by decide +kernel), j_in 89 (by decide +kernel) (by decide +kernel)⟩
theorem cb_X12_putsBack : j_CB yX12_putsBack cX12_putsBack 2 none 0 := ⟨by decide +kernel, j_in 1738 (by decide +kernel) (by decide +kernel), j_in 114 (by decide +kernel) (by decide +kernel), by decide +kernel, by decide +kernel, by decide +kernel⟩
theorem cvRX12_380 : j_CV RX12 380 yX12_putsBack := ⟨Or.inl (j_in 1735 (by decide +kernel) (by decide +kernel)), j_in 1737 (by decide +kernel) (by decide +kernel), j_in 90 (by decide +kernel) (by decide +kernel)⟩
theorem fp_7_23 : j_FP 7 23 .boolean := ⟨RX12, TX12, 32, tyX12, rfl, tyX12_ok, nmX12, rfl, by decide +kernel⟩
theorem cb_X12_readsAll : j_CB yX12_readsAll cX12_readsAll 1 (some .boolean) 0 := ⟨by decide +kernel, j_in 1629 (by decide +kernel) (by decide +kernel), j_in 114 (by decide +kernel) (by decide +kernel), by decide +kernel, by decide +kernel, by decide +kernel⟩
theorem cvRX12_346 : j_CV RX12 346 yX12_readsAll := ⟨Or.inl (j_in 1626 (by decide +kernel) (by decide +kernel)), j_in 1628 (by decide +kernel) (by decide +kernel), j_in 78 (by decide +kernel) (by decide +kernel)⟩
theorem cb_X12_makes : j_CB yX12_makes cX12_makes 3 (some .boolean) 0 := ⟨by decide +kernel, j_in 1645 (by decide +kernel) (by decide +kernel), j_in 114 (by decide +kernel) (by decide +kernel), by decide +kernel, by decide +kernel, by decide +kernel⟩
theorem cvRX12_349 : j_CV RX12 349 yX12_makes := ⟨Or.inl (j_in 1642 (by decide +kernel) (by decide +kernel)), j_in 1644 (by decide +kernel) (by decide +kernel), j_in 82 (by decide +kernel) (by decide +kernel)⟩
theorem cb_X12_readsPlan : j_CB yX12_readsPlan cX12_readsPlan 2 (some .boolean) 0 := ⟨by decide +kernel, j_in 1517 (by decide +kernel) (by decide +kernel), j_in 114 (by decide +kernel) (by decide +kernel), by decide +kernel, by decide +kernel, by decide +kernel⟩
theorem cvRX12_339 : j_CV RX12 339 yX12_readsPlan := ⟨Or.inl (j_in 1514 (by decide +kernel) (by decide +kernel)), j_in 1516 (by decide +kernel) (by decide +kernel), j_in 65 (by decide +kernel) (by decide +kernel)⟩
theorem cb_X12_planned : j_CB yX12_planned cX12_planned 3 (some .int) 1 := ⟨by decide +kernel, j_in 1625 (by decide +kernel) (by decide +kernel), j_in 114 (by decide +kernel) (by decide +kernel), by decide +kernel, by decide +kernel, by decide +kernel⟩
theorem cvRX12_342 : j_CV RX12 342 yX12_planned := ⟨Or.inl (j_in 1622 (by decide +kernel) (by decide +kernel)), j_in 1624 (by decide +kernel) (by decide +kernel), j_in 77 (by decide +kernel) (by decide +kernel)⟩
theorem fRX12_46 : j_F RX12 46 7 24 := ⟨RX12, TX12, 32, rfl, by decide, ws_in7, j_in 1201 (by decide +kernel) (by decide +kernel)⟩
theorem cb_X12_fieldOf : j_CB yX12_fieldOf cX12_fieldOf 2 (some .int) 1 := ⟨by decide +kernel, j_in 1766 (by decide +kernel) (by decide +kernel), j_in 114 (by decide +kernel) (by decide +kernel), by decide +kernel, by decide +kernel, by decide +kernel⟩
theorem cvRX12_389 : j_CV RX12 389 yX12_fieldOf := ⟨Or.inl (j_in 1763 (by decide +kernel) (by decide +kernel)), j_in 1765 (by decide +kernel) (by decide +kernel), j_in 96 (by decide +kernel) (by decide +kernel)⟩
theorem cb_X12_isBehind : j_CB yX12_isBehind cX12_isBehind 4 (some .boolean) 2 := ⟨by decide +kernel, j_in 1754 (by decide +kernel) (by decide +kernel), j_in 114 (by decide +kernel) (by decide +kernel), by decide +kernel, by decide +kernel, by decide +kernel⟩
theorem cvRX12_383 : j_CV RX12 383 yX12_isBehind := ⟨Or.inl (j_in 1751 (by decide +kernel) (by decide +kernel)), j_in 1753 (by decide +kernel) (by decide +kernel), j_in 93 (by decide +kernel) (by decide +kernel)⟩
theorem cb_X12_swaps : j_CB yX12_swaps cX12_swaps 5 none 2 := ⟨by decide +kernel, j_in 1758 (by decide +kernel) (by decide +kernel), j_in 114 (by decide +kernel) (by decide +kernel), by decide +kernel, by decide +kernel, by decide +kernel⟩
theorem cvRX12_386 : j_CV RX12 386 yX12_swaps := ⟨Or.inl (j_in 1755 (by decide +kernel) (by decide +kernel)), j_in 1757 (by decide +kernel) (by decide +kernel), j_in 94 (by decide +kernel) (by decide +kernel)⟩
theorem cb_X12_sorts : j_CB yX12_sorts cX12_sorts 3 none 0 := ⟨by decide +kernel, j_in 1750 (by decide +kernel) (by decide +kernel), j_in 114 (by decide +kernel) (by decide +kernel), by decide +kernel, by decide +kernel, by decide +kernel⟩
theorem cvRX12_395 : j_CV RX12 395 yX12_sorts := ⟨Or.inl (j_in 1747 (by decide +kernel) (by decide +kernel)), j_in 1749 (by decide +kernel) (by decide +kernel), j_in 92 (by decide +kernel) (by decide +kernel)⟩
theorem fRX12_392 : j_F RX12 392 7 31 := ⟨RX12, TX12, 32, rfl, by decide, ws_in7, j_in 1208 (by decide +kernel) (by decide +kernel)⟩
theorem fp_7_31 : j_FP 7 31 .boolean := ⟨RX12, TX12, 32, tyX12, rfl, tyX12_ok, nmX12, rfl, by decide +kernel⟩
theorem fRX12_398 : j_F RX12 398 7 29 := ⟨RX12, TX12, 32, rfl, by decide, ws_in7, j_in 1206 (by decide +kernel) (by decide +kernel)⟩
theorem cb_X12_isState : j_CB yX12_isState cX12_isState 3 (some .boolean) 1 := ⟨by decide +kernel, j_in 1762 (by decide +kernel) (by decide +kernel), j_in 114 (by decide +kernel) (by decide +kernel), by decide +kernel, by decide +kernel, by decide +kernel⟩
theorem cvRX12_401 : j_CV RX12 401 yX12_isState := ⟨Or.inl (j_in 1759 (by decide +kernel) (by decide +kernel)), j_in 1761 (by decide +kernel) (by decide +kernel), j_in 95 (by decide +kernel) (by decide +kernel)⟩
theorem fRX12_49 : j_F RX12 49 7 25 := ⟨RX12, TX12, 32, rfl, by decide, ws_in7, j_in 1202 (by decide +kernel) (by decide +kernel)⟩
theorem fp_7_29 : j_FP 7 29 .int := ⟨RX12, TX12, 32, tyX12, rfl, tyX12_ok, nmX12, rfl, by decide +kernel⟩
theorem fRX12_58 : j_F RX12 58 7 28 := ⟨RX12, TX12, 32, rfl, by decide, ws_in7, j_in 1205 (by decide +kernel) (by decide +kernel)⟩
theorem fRX12_413 : j_F RX12 413 7 30 := ⟨RX12, TX12, 32, rfl, by decide, ws_in7, j_in 1207 (by decide +kernel) (by decide +kernel)⟩
theorem fRX12_52 : j_F RX12 52 7 26 := ⟨RX12, TX12, 32, rfl, by decide, ws_in7, j_in 1203 (by decide +kernel) (by decide +kernel)⟩
theorem fRX12_55 : j_F RX12 55 7 27 := ⟨RX12, TX12, 32, rfl, by decide, ws_in7, j_in 1204 (by decide +kernel) (by decide +kernel)⟩
theorem cb_X12_goesRound : j_CB yX12_goesRound cX12_goesRound 6 (some .boolean) 0 := ⟨by decide +kernel, j_in 1794 (by decide +kernel) (by decide +kernel), j_in 114 (by decide +kernel) (by decide +kernel), by decide +kernel, by decide +kernel, by decide +kernel⟩
theorem cvRX12_422 : j_CV RX12 422 yX12_goesRound := ⟨Or.inl (j_in 1791 (by decide +kernel) (by decide +kernel)), j_in 1793 (by decide +kernel) (by decide +kernel), j_in 103 (by decide +kernel) (by decide +kernel)⟩
theorem cb_X12_isQuiet : j_CB yX12_isQuiet cX12_isQuiet 2 (some .boolean) 1 := ⟨by decide +kernel, j_in 1786 (by decide +kernel) (by decide +kernel), j_in 114 (by decide +kernel) (by decide +kernel), by decide +kernel, by decide +kernel, by decide +kernel⟩
theorem cvRX12_416 : j_CV RX12 416 yX12_isQuiet := ⟨Or.inl (j_in 1783 (by decide +kernel) (by decide +kernel)), j_in 1785 (by decide +kernel) (by decide +kernel), j_in 101 (by decide +kernel) (by decide +kernel)⟩
theorem cb_X12_hasMiss : j_CB yX12_hasMiss cX12_hasMiss 3 (some .boolean) 1 := ⟨by decide +kernel, j_in 1790 (by decide +kernel) (by decide +kernel), j_in 114 (by decide +kernel) (by decide +kernel), by decide +kernel, by decide +kernel, by decide +kernel⟩
theorem cvRX12_419 : j_CV RX12 419 yX12_hasMiss := ⟨Or.inl (j_in 1787 (by decide +kernel) (by decide +kernel)), j_in 1789 (by decide +kernel) (by decide +kernel), j_in 102 (by decide +kernel) (by decide +kernel)⟩
theorem cb_X12_laysState : j_CB yX12_laysState cX12_laysState 3 none 1 := ⟨by decide +kernel, j_in 1774 (by decide +kernel) (by decide +kernel), j_in 114 (by decide +kernel) (by decide +kernel), by decide +kernel, by decide +kernel, by decide +kernel⟩
theorem cvRX12_404 : j_CV RX12 404 yX12_laysState := ⟨Or.inl (j_in 1771 (by decide +kernel) (by decide +kernel)), j_in 1773 (by decide +kernel) (by decide +kernel), j_in 98 (by decide +kernel) (by decide +kernel)⟩
theorem cb_X12_isLikeAhead : j_CB yX12_isLikeAhead cX12_isLikeAhead 2 (some .boolean) 1 := ⟨by decide +kernel, j_in 1778 (by decide +kernel) (by decide +kernel), j_in 114 (by decide +kernel) (by decide +kernel), by decide +kernel, by decide +kernel, by decide +kernel⟩
theorem cvRX12_407 : j_CV RX12 407 yX12_isLikeAhead := ⟨Or.inl (j_in 1775 (by decide +kernel) (by decide +kernel)), j_in 1777 (by decide +kernel) (by decide +kernel), j_in 99 (by decide +kernel) (by decide +kernel)⟩
theorem cb_X12_stateNow : j_CB yX12_stateNow cX12_stateNow 3 (some .int) 1 := ⟨by decide +kernel, j_in 1746 (by decide +kernel) (by decide +kernel), j_in 114 (by decide +kernel) (by decide +kernel), by decide +kernel, by decide +kernel, by decide +kernel⟩
theorem cvRX12_410 : j_CV RX12 410 yX12_stateNow := ⟨Or.inl (j_in 1743 (by decide +kernel) (by decide +kernel)), j_in 1745 (by decide +kernel) (by decide +kernel), j_in 91 (by decide +kernel) (by decide +kernel)⟩
theorem fp_7_30 : j_FP 7 30 .int := ⟨RX12, TX12, 32, tyX12, rfl, tyX12_ok, nmX12, rfl, by decide +kernel⟩
theorem cb_X12_walksFrom : j_CB yX12_walksFrom cX12_walksFrom 5 none 1 := ⟨by decide +kernel, j_in 1770 (by decide +kernel) (by decide +kernel), j_in 114 (by decide +kernel) (by decide +kernel), by decide +kernel, by decide +kernel, by decide +kernel⟩
theorem cvRX12_425 : j_CV RX12 425 yX12_walksFrom := ⟨Or.inl (j_in 1767 (by decide +kernel) (by decide +kernel)), j_in 1769 (by decide +kernel) (by decide +kernel), j_in 97 (by decide +kernel) (by decide +kernel)⟩
theorem cb_X12_tells : j_CB yX12_tells cX12_tells 6 (some .int) 1 := ⟨by decide +kernel, j_in 1782 (by decide +kernel) (by decide +kernel), j_in 114 (by decide +kernel) (by decide +kernel), by decide +kernel, by decide +kernel, by decide +kernel⟩
theorem cvRX12_428 : j_CV RX12 428 yX12_tells := ⟨Or.inl (j_in 1779 (by decide +kernel) (by decide +kernel)), j_in 1781 (by decide +kernel) (by decide +kernel), j_in 100 (by decide +kernel) (by decide +kernel)⟩
theorem cb_X12_ownerAt : j_CB yX12_ownerAt cX12_ownerAt 3 (some .int) 1 := ⟨by decide +kernel, j_in 1706 (by decide +kernel) (by decide +kernel), j_in 114 (by decide +kernel) (by decide +kernel), by decide +kernel, by decide +kernel, by decide +kernel⟩
theorem cvRX12_358 : j_CV RX12 358 yX12_ownerAt := ⟨Or.inl (j_in 1703 (by decide +kernel) (by decide +kernel)), j_in 1705 (by decide +kernel) (by decide +kernel), j_in 83 (by decide +kernel) (by decide +kernel)⟩
theorem cb_X12_setOf : j_CB yX12_setOf cX12_setOf 5 (some .int) 2 := ⟨by decide +kernel, j_in 1710 (by decide +kernel) (by decide +kernel), j_in 114 (by decide +kernel) (by decide +kernel), by decide +kernel, by decide +kernel, by decide +kernel⟩
theorem cvRX12_361 : j_CV RX12 361 yX12_setOf := ⟨Or.inl (j_in 1707 (by decide +kernel) (by decide +kernel)), j_in 1709 (by decide +kernel) (by decide +kernel), j_in 84 (by decide +kernel) (by decide +kernel)⟩
theorem cb_X12_storer : j_CB yX12_storer cX12_storer 3 (some .int) 1 := ⟨by decide +kernel, j_in 1714 (by decide +kernel) (by decide +kernel), j_in 114 (by decide +kernel) (by decide +kernel), by decide +kernel, by decide +kernel, by decide +kernel⟩
theorem cvRX12_365 : j_CV RX12 365 yX12_storer := ⟨Or.inl (j_in 1711 (by decide +kernel) (by decide +kernel)), j_in 1713 (by decide +kernel) (by decide +kernel), j_in 85 (by decide +kernel) (by decide +kernel)⟩
theorem cb_X12_havers : j_CB yX12_havers cX12_havers 4 (some .int) 1 := ⟨by decide +kernel, j_in 1718 (by decide +kernel) (by decide +kernel), j_in 114 (by decide +kernel) (by decide +kernel), by decide +kernel, by decide +kernel, by decide +kernel⟩
theorem cvRX12_368 : j_CV RX12 368 yX12_havers := ⟨Or.inl (j_in 1715 (by decide +kernel) (by decide +kernel)), j_in 1717 (by decide +kernel) (by decide +kernel), j_in 86 (by decide +kernel) (by decide +kernel)⟩
theorem cb_X12_ofLineOnTheWay : j_CB yX12_ofLineOnTheWay cX12_ofLineOnTheWay 4 (some .int) 1 := ⟨by decide +kernel, j_in 1722 (by decide +kernel) (by decide +kernel), j_in 114 (by decide +kernel) (by decide +kernel), by decide +kernel, by decide +kernel, by decide +kernel⟩
theorem cvRX12_371 : j_CV RX12 371 yX12_ofLineOnTheWay := ⟨Or.inl (j_in 1719 (by decide +kernel) (by decide +kernel)), j_in 1721 (by decide +kernel) (by decide +kernel), j_in 87 (by decide +kernel) (by decide +kernel)⟩
theorem cb_X12_tablesOf : j_CB yX12_tablesOf cX12_tablesOf 4 (some .int) 1 := ⟨by decide +kernel, j_in 1726 (by decide +kernel) (by decide +kernel), j_in 114 (by decide +kernel) (by decide +kernel), by decide +kernel, by decide +kernel, by decide +kernel⟩
theorem cvRX12_374 : j_CV RX12 374 yX12_tablesOf := ⟨Or.inl (j_in 1723 (by decide +kernel) (by decide +kernel)), j_in 1725 (by decide +kernel) (by decide +kernel), j_in 88 (by decide +kernel) (by decide +kernel)⟩
theorem dX12_can__0 : decode cX12_can_ 0 = .ok (.aload_n 0, 1) := by decide +kernel
theorem dX12_can__1 : decode cX12_can_ 1 = .ok (.iload_n 1, 1) := by decide +kernel
theorem dX12_can__2 : decode cX12_can_ 2 = .ok (.invokevirtual 69, 3) := by decide +kernel
theorem dX12_can__5 : decode cX12_can_ 5 = .ok (.ifCond .eq 42, 3) := by decide +kernel
theorem dX12_can__8 : decode cX12_can_ 8 = .ok (.iload_n 2, 1) := by decide +kernel
theorem dX12_can__9 : decode cX12_can_ 9 = .ok (.invokestatic 140, 3) := by decide +kernel
theorem dX12_can__12 : decode cX12_can_ 12 = .ok (.ifCond .eq 35, 3) := by decide +kernel
theorem dX12_can__15 : decode cX12_can_ 15 = .ok (.aload_n 0, 1) := by decide +kernel
theorem dX12_can__16 : decode cX12_can_ 16 = .ok (.iload_n 1, 1) := by decide +kernel
theorem dX12_can__17 : decode cX12_can_ 17 = .ok (.iload_n 2, 1) := by decide +kernel
theorem dX12_can__18 : decode cX12_can_ 18 = .ok (.iconst 2, 1) := by decide +kernel
theorem dX12_can__19 : decode cX12_can_ 19 = .ok (.invokevirtual 143, 3) := by decide +kernel
theorem dX12_can__22 : decode cX12_can_ 22 = .ok (.ifCond .eq 7, 3) := by decide +kernel
theorem dX12_can__25 : decode cX12_can_ 25 = .ok (.iconst 2, 1) := by decide +kernel
theorem dX12_can__26 : decode cX12_can_ 26 = .ok (.goto 22, 3) := by decide +kernel
theorem dX12_can__29 : decode cX12_can_ 29 = .ok (.aload_n 0, 1) := by decide +kernel
theorem dX12_can__30 : decode cX12_can_ 30 = .ok (.iload_n 1, 1) := by decide +kernel
theorem dX12_can__31 : decode cX12_can_ 31 = .ok (.iload_n 2, 1) := by decide +kernel
theorem dX12_can__32 : decode cX12_can_ 32 = .ok (.iconst 1, 1) := by decide +kernel
theorem dX12_can__33 : decode cX12_can_ 33 = .ok (.invokevirtual 143, 3) := by decide +kernel
theorem dX12_can__36 : decode cX12_can_ 36 = .ok (.ifCond .eq 7, 3) := by decide +kernel
theorem dX12_can__39 : decode cX12_can_ 39 = .ok (.iconst 1, 1) := by decide +kernel
theorem dX12_can__40 : decode cX12_can_ 40 = .ok (.goto 8, 3) := by decide +kernel
theorem dX12_can__43 : decode cX12_can_ 43 = .ok (.iconst 0, 1) := by decide +kernel
theorem dX12_can__44 : decode cX12_can_ 44 = .ok (.goto 4, 3) := by decide +kernel
theorem dX12_can__47 : decode cX12_can_ 47 = .ok (.iconst (-1), 1) := by decide +kernel
theorem dX12_can__48 : decode cX12_can_ 48 = .ok (.ireturn, 1) := by decide +kernel
def xX12_can_  (l1 : Int32) (l2 : Int32) (M : j_M) : Option (Int32 × j_M) := obi (xX12_isCpu l1 M) fun v2 M1 => (if v2 = (0 : Int32) then some ((-1 : Int32), M1) else obi (xX12_isLine l2 M1) fun v4 M3 => (if v4 = (0 : Int32) then some ((-1 : Int32), M3) else obi (xX12_isHit l1 l2 (nI 2) M3) fun v6 M5 => (if v6 = (0 : Int32) then obi (xX12_isHit l1 l2 (nI 1) M5) fun v8 M7 => (if v8 = (0 : Int32) then some ((nI 0), M7) else some ((nI 1), M7)) else some ((nI 2), M5))))
set_option maxRecDepth 20000 in
set_option maxHeartbeats 2000000 in
theorem tX12_can_  (l1 : Int32) (l2 : Int32) (M : j_M) : J (ρ := Int32 × j_M) yX12_can_ cX12_can_ 3 (some .int) 2 45 j_ei 0 [(0, .inr (17, 0, 200)), (1, .inl (l1)), (2, .inl (l2))] [] M (xX12_can_  l1 l2 M) := by
  unfold xX12_can_
  refine K_aload_n (q := 1) 0 dX12_can__0 rfl rfl rfl ?_
  refine K_iload_n (q := 2) 1 dX12_can__1 rfl rfl rfl ?_
  refine K_cvi (q := 5) [.inl (l1)] dX12_can__2 cb_X12_isCpu cvRX12_69 rc_7 (show (17 : Nat) ≠ 0 by decide) rfl (Nat.le_of_ble_eq_true rfl) ⟨by decide, by decide⟩ (Nat.le_of_ble_eq_true rfl) rfl (tX12_isCpu l1 M) rfl (fun v2 M1 => ?_)
  refine K_if_eq (q := 8) (tgt := 47) dX12_can__5 rfl ?_ rfl ?_
  · refine K_iconst (q := 48) (v := -1) dX12_can__47 rfl rfl ?_
    exact J_iret dX12_can__48
  · refine K_iload_n (q := 9) 2 dX12_can__8 rfl rfl rfl ?_
    refine K_csi (q := 12) [.inl (l2)] dX12_can__9 cb_X12_isLine cvRX12_140 rfl (Nat.le_of_ble_eq_true rfl) ⟨by decide, by decide⟩ (Nat.le_of_ble_eq_true rfl) rfl (tX12_isLine l2 M1) rfl (fun v4 M3 => ?_)
    refine K_if_eq (q := 15) (tgt := 47) dX12_can__12 rfl ?_ rfl ?_
    · refine K_iconst (q := 48) (v := -1) dX12_can__47 rfl rfl ?_
      exact J_iret dX12_can__48
    · refine K_aload_n (q := 16) 0 dX12_can__15 rfl rfl rfl ?_
      refine K_iload_n (q := 17) 1 dX12_can__16 rfl rfl rfl ?_
      refine K_iload_n (q := 18) 2 dX12_can__17 rfl rfl rfl ?_
      refine K_iconst (q := 19) (v := nI 2) dX12_can__18 rfl rfl ?_
      refine K_cvi (q := 22) [.inl (l1), .inl (l2), .inl ((nI 2))] dX12_can__19 cb_X12_isHit cvRX12_143 rc_7 (show (17 : Nat) ≠ 0 by decide) rfl (Nat.le_of_ble_eq_true rfl) ⟨by decide, by decide⟩ (Nat.le_of_ble_eq_true rfl) rfl (tX12_isHit l1 l2 (nI 2) M3) rfl (fun v6 M5 => ?_)
      refine K_if_eq (q := 25) (tgt := 29) dX12_can__22 rfl ?_ rfl ?_
      · refine K_aload_n (q := 30) 0 dX12_can__29 rfl rfl rfl ?_
        refine K_iload_n (q := 31) 1 dX12_can__30 rfl rfl rfl ?_
        refine K_iload_n (q := 32) 2 dX12_can__31 rfl rfl rfl ?_
        refine K_iconst (q := 33) (v := nI 1) dX12_can__32 rfl rfl ?_
        refine K_cvi (q := 36) [.inl (l1), .inl (l2), .inl ((nI 1))] dX12_can__33 cb_X12_isHit cvRX12_143 rc_7 (show (17 : Nat) ≠ 0 by decide) rfl (Nat.le_of_ble_eq_true rfl) ⟨by decide, by decide⟩ (Nat.le_of_ble_eq_true rfl) rfl (tX12_isHit l1 l2 (nI 1) M5) rfl (fun v8 M7 => ?_)
        refine K_if_eq (q := 39) (tgt := 43) dX12_can__36 rfl ?_ rfl ?_
        · refine K_iconst (q := 44) (v := nI 0) dX12_can__43 rfl rfl ?_
          refine J_goto (tgt := 48) dX12_can__44 rfl ?_
          exact J_iret dX12_can__48
        · refine K_iconst (q := 40) (v := nI 1) dX12_can__39 rfl rfl ?_
          refine J_goto (tgt := 48) dX12_can__40 rfl ?_
          exact J_iret dX12_can__48
      · refine K_iconst (q := 26) (v := nI 2) dX12_can__25 rfl rfl ?_
        refine J_goto (tgt := 48) dX12_can__26 rfl ?_
        exact J_iret dX12_can__48
theorem dX12_cost_0 : decode cX12_cost 0 = .ok (.iload_n 1, 1) := by decide +kernel
theorem dX12_cost_1 : decode cX12_cost 1 = .ok (.iconst 0, 1) := by decide +kernel
theorem dX12_cost_2 : decode cX12_cost 2 = .ok (.iconst 5, 1) := by decide +kernel
theorem dX12_cost_3 : decode cX12_cost 3 = .ok (.invokestatic 65, 3) := by decide +kernel
theorem dX12_cost_6 : decode cX12_cost 6 = .ok (.ifCond .eq 29, 3) := by decide +kernel
theorem dX12_cost_9 : decode cX12_cost 9 = .ok (.iload_n 2, 1) := by decide +kernel
theorem dX12_cost_10 : decode cX12_cost 10 = .ok (.iconst 0, 1) := by decide +kernel
theorem dX12_cost_11 : decode cX12_cost 11 = .ok (.iconst 4, 1) := by decide +kernel
theorem dX12_cost_12 : decode cX12_cost 12 = .ok (.invokestatic 65, 3) := by decide +kernel
theorem dX12_cost_15 : decode cX12_cost 15 = .ok (.ifCond .eq 20, 3) := by decide +kernel
theorem dX12_cost_18 : decode cX12_cost 18 = .ok (.aload_n 0, 1) := by decide +kernel
theorem dX12_cost_19 : decode cX12_cost 19 = .ok (.getfield 9, 3) := by decide +kernel
theorem dX12_cost_22 : decode cX12_cost 22 = .ok (.sipush 6736, 3) := by decide +kernel
theorem dX12_cost_25 : decode cX12_cost 25 = .ok (.iconst 5, 1) := by decide +kernel
theorem dX12_cost_26 : decode cX12_cost 26 = .ok (.iload_n 1, 1) := by decide +kernel
theorem dX12_cost_27 : decode cX12_cost 27 = .ok (.imul, 1) := by decide +kernel
theorem dX12_cost_28 : decode cX12_cost 28 = .ok (.iadd, 1) := by decide +kernel
theorem dX12_cost_29 : decode cX12_cost 29 = .ok (.iload_n 2, 1) := by decide +kernel
theorem dX12_cost_30 : decode cX12_cost 30 = .ok (.iadd, 1) := by decide +kernel
theorem dX12_cost_31 : decode cX12_cost 31 = .ok (.iaload, 1) := by decide +kernel
theorem dX12_cost_32 : decode cX12_cost 32 = .ok (.goto 4, 3) := by decide +kernel
theorem dX12_cost_35 : decode cX12_cost 35 = .ok (.iconst (-1), 1) := by decide +kernel
theorem dX12_cost_36 : decode cX12_cost 36 = .ok (.ireturn, 1) := by decide +kernel
def xX12_cost  (l1 : Int32) (l2 : Int32) (M : j_M) : Option (Int32 × j_M) := obi (xX12_isIn l1 (nI 0) (nI 5) M) fun v2 M1 => (if v2 = (0 : Int32) then some ((-1 : Int32), M1) else obi (xX12_isIn l2 (nI 0) (nI 4) M1) fun v4 M3 => (if v4 = (0 : Int32) then some ((-1 : Int32), M3) else gd (((nI 6736) + ((nI 5) * l1)) + l2) 7460 (oli (M3 201 (ix (((nI 6736) + ((nI 5) * l1)) + l2))) fun v5 => some (v5, M3))))
set_option maxRecDepth 20000 in
set_option maxHeartbeats 2000000 in
theorem tX12_cost  (l1 : Int32) (l2 : Int32) (M : j_M) : J (ρ := Int32 × j_M) yX12_cost cX12_cost 3 (some .int) 1 22 j_ei 0 [(0, .inr (17, 0, 200)), (1, .inl (l1)), (2, .inl (l2))] [] M (xX12_cost  l1 l2 M) := by
  unfold xX12_cost
  refine K_iload_n (q := 1) 1 dX12_cost_0 rfl rfl rfl ?_
  refine K_iconst (q := 2) (v := nI 0) dX12_cost_1 rfl rfl ?_
  refine K_iconst (q := 3) (v := nI 5) dX12_cost_2 rfl rfl ?_
  refine K_csi (q := 6) [.inl (l1), .inl ((nI 0)), .inl ((nI 5))] dX12_cost_3 cb_X12_isIn cvRX12_65 rfl (Nat.le_of_ble_eq_true rfl) ⟨by decide, by decide⟩ (Nat.le_of_ble_eq_true rfl) rfl (tX12_isIn l1 (nI 0) (nI 5) M) rfl (fun v2 M1 => ?_)
  refine K_if_eq (q := 9) (tgt := 35) dX12_cost_6 rfl ?_ rfl ?_
  · refine K_iconst (q := 36) (v := -1) dX12_cost_35 rfl rfl ?_
    exact J_iret dX12_cost_36
  · refine K_iload_n (q := 10) 2 dX12_cost_9 rfl rfl rfl ?_
    refine K_iconst (q := 11) (v := nI 0) dX12_cost_10 rfl rfl ?_
    refine K_iconst (q := 12) (v := nI 4) dX12_cost_11 rfl rfl ?_
    refine K_csi (q := 15) [.inl (l2), .inl ((nI 0)), .inl ((nI 4))] dX12_cost_12 cb_X12_isIn cvRX12_65 rfl (Nat.le_of_ble_eq_true rfl) ⟨by decide, by decide⟩ (Nat.le_of_ble_eq_true rfl) rfl (tX12_isIn l2 (nI 0) (nI 4) M1) rfl (fun v4 M3 => ?_)
    refine K_if_eq (q := 18) (tgt := 35) dX12_cost_15 rfl ?_ rfl ?_
    · refine K_iconst (q := 36) (v := -1) dX12_cost_35 rfl rfl ?_
      exact J_iret dX12_cost_36
    · refine K_aload_n (q := 19) 0 dX12_cost_18 rfl rfl rfl ?_
      refine K_getR (q := 22) (ci := 7) (a2 := 201) 0 dX12_cost_19 fRX12_9 rfl rfl (by decide) rfl rfl ?_
      refine K_sipush (q := 25) (v := nI 6736) dX12_cost_22 rfl rfl ?_
      refine K_iconst (q := 26) (v := nI 5) dX12_cost_25 rfl rfl ?_
      refine K_iload_n (q := 27) 1 dX12_cost_26 rfl rfl rfl ?_
      refine K_imul (q := 28) dX12_cost_27 rfl ?_
      refine K_iadd (q := 29) dX12_cost_28 rfl ?_
      refine K_iload_n (q := 30) 2 dX12_cost_29 rfl rfl rfl ?_
      refine K_iadd (q := 31) dX12_cost_30 rfl ?_
      refine K_iald (q := 32) dX12_cost_31 rfl (fun v5 => ?_)
      refine J_goto (tgt := 36) dX12_cost_32 rfl ?_
      exact J_iret dX12_cost_36
theorem dX12_fault_0 : decode cX12_fault 0 = .ok (.iload_n 1, 1) := by decide +kernel
theorem dX12_fault_1 : decode cX12_fault 1 = .ok (.ifCond .ne 10, 3) := by decide +kernel
theorem dX12_fault_4 : decode cX12_fault 4 = .ok (.aload_n 0, 1) := by decide +kernel
theorem dX12_fault_5 : decode cX12_fault 5 = .ok (.getfield 310, 3) := by decide +kernel
theorem dX12_fault_8 : decode cX12_fault 8 = .ok (.goto 16, 3) := by decide +kernel
theorem dX12_fault_11 : decode cX12_fault 11 = .ok (.iload_n 1, 1) := by decide +kernel
theorem dX12_fault_12 : decode cX12_fault 12 = .ok (.iconst 1, 1) := by decide +kernel
theorem dX12_fault_13 : decode cX12_fault 13 = .ok (.if_icmp .ne 10, 3) := by decide +kernel
theorem dX12_fault_16 : decode cX12_fault 16 = .ok (.aload_n 0, 1) := by decide +kernel
theorem dX12_fault_17 : decode cX12_fault 17 = .ok (.getfield 41, 3) := by decide +kernel
theorem dX12_fault_20 : decode cX12_fault 20 = .ok (.goto 4, 3) := by decide +kernel
theorem dX12_fault_23 : decode cX12_fault 23 = .ok (.iconst (-1), 1) := by decide +kernel
theorem dX12_fault_24 : decode cX12_fault 24 = .ok (.ireturn, 1) := by decide +kernel
def xX12_fault  (l1 : Int32) (M : j_M) : Option (Int32 × j_M) := (if l1 = (0 : Int32) then oli (M 200 19) fun v2 => some (v2, M) else (if l1 = (nI 1) then oli (M 200 22) fun v1 => some (v1, M) else some ((-1 : Int32), M)))
set_option maxRecDepth 20000 in
set_option maxHeartbeats 2000000 in
theorem tX12_fault  (l1 : Int32) (M : j_M) : J (ρ := Int32 × j_M) yX12_fault cX12_fault 2 (some .int) 0 0 j_ei 0 [(0, .inr (17, 0, 200)), (1, .inl (l1))] [] M (xX12_fault  l1 M) := by
  unfold xX12_fault
  refine K_iload_n (q := 1) 1 dX12_fault_0 rfl rfl rfl ?_
  refine K_if_ne (q := 4) (tgt := 11) dX12_fault_1 rfl ?_ rfl ?_
  · refine K_iload_n (q := 12) 1 dX12_fault_11 rfl rfl rfl ?_
    refine K_iconst (q := 13) (v := nI 1) dX12_fault_12 rfl rfl ?_
    refine K_icmp_ne (q := 16) (tgt := 23) dX12_fault_13 rfl ?_ rfl ?_
    · refine K_iconst (q := 24) (v := -1) dX12_fault_23 rfl rfl ?_
      exact J_iret dX12_fault_24
    · refine K_aload_n (q := 17) 0 dX12_fault_16 rfl rfl rfl ?_
      refine K_getI (q := 20) (ci := 7) 22 dX12_fault_17 fRX12_41 rfl rfl rfl (fun v1 => ?_)
      refine J_goto (tgt := 24) dX12_fault_20 rfl ?_
      exact J_iret dX12_fault_24
  · refine K_aload_n (q := 5) 0 dX12_fault_4 rfl rfl rfl ?_
    refine K_getI (q := 8) (ci := 7) 19 dX12_fault_5 fRX12_310 rfl rfl rfl (fun v2 => ?_)
    refine J_goto (tgt := 24) dX12_fault_8 rfl ?_
    exact J_iret dX12_fault_24
theorem dX12_flow_0 : decode cX12_flow 0 = .ok (.iload_n 1, 1) := by decide +kernel
theorem dX12_flow_1 : decode cX12_flow 1 = .ok (.iconst 0, 1) := by decide +kernel
theorem dX12_flow_2 : decode cX12_flow 2 = .ok (.bipush 6, 2) := by decide +kernel
theorem dX12_flow_4 : decode cX12_flow 4 = .ok (.invokestatic 65, 3) := by decide +kernel
theorem dX12_flow_7 : decode cX12_flow 7 = .ok (.ifCond .eq 44, 3) := by decide +kernel
theorem dX12_flow_10 : decode cX12_flow 10 = .ok (.iload_n 2, 1) := by decide +kernel
theorem dX12_flow_11 : decode cX12_flow 11 = .ok (.iconst 0, 1) := by decide +kernel
theorem dX12_flow_12 : decode cX12_flow 12 = .ok (.bipush 6, 2) := by decide +kernel
theorem dX12_flow_14 : decode cX12_flow 14 = .ok (.invokestatic 65, 3) := by decide +kernel
theorem dX12_flow_17 : decode cX12_flow 17 = .ok (.ifCond .eq 34, 3) := by decide +kernel
theorem dX12_flow_20 : decode cX12_flow 20 = .ok (.iload_n 3, 1) := by decide +kernel
theorem dX12_flow_21 : decode cX12_flow 21 = .ok (.iconst 0, 1) := by decide +kernel
theorem dX12_flow_22 : decode cX12_flow 22 = .ok (.iconst 2, 1) := by decide +kernel
theorem dX12_flow_23 : decode cX12_flow 23 = .ok (.invokestatic 65, 3) := by decide +kernel
theorem dX12_flow_26 : decode cX12_flow 26 = .ok (.ifCond .eq 25, 3) := by decide +kernel
theorem dX12_flow_29 : decode cX12_flow 29 = .ok (.aload_n 0, 1) := by decide +kernel
theorem dX12_flow_30 : decode cX12_flow 30 = .ok (.getfield 9, 3) := by decide +kernel
theorem dX12_flow_33 : decode cX12_flow 33 = .ok (.sipush 6814, 3) := by decide +kernel
theorem dX12_flow_36 : decode cX12_flow 36 = .ok (.iconst 3, 1) := by decide +kernel
theorem dX12_flow_37 : decode cX12_flow 37 = .ok (.bipush 7, 2) := by decide +kernel
theorem dX12_flow_39 : decode cX12_flow 39 = .ok (.iload_n 1, 1) := by decide +kernel
theorem dX12_flow_40 : decode cX12_flow 40 = .ok (.imul, 1) := by decide +kernel
theorem dX12_flow_41 : decode cX12_flow 41 = .ok (.iload_n 2, 1) := by decide +kernel
theorem dX12_flow_42 : decode cX12_flow 42 = .ok (.iadd, 1) := by decide +kernel
theorem dX12_flow_43 : decode cX12_flow 43 = .ok (.imul, 1) := by decide +kernel
theorem dX12_flow_44 : decode cX12_flow 44 = .ok (.iadd, 1) := by decide +kernel
theorem dX12_flow_45 : decode cX12_flow 45 = .ok (.iload_n 3, 1) := by decide +kernel
theorem dX12_flow_46 : decode cX12_flow 46 = .ok (.iadd, 1) := by decide +kernel
theorem dX12_flow_47 : decode cX12_flow 47 = .ok (.iaload, 1) := by decide +kernel
theorem dX12_flow_48 : decode cX12_flow 48 = .ok (.goto 4, 3) := by decide +kernel
theorem dX12_flow_51 : decode cX12_flow 51 = .ok (.iconst (-1), 1) := by decide +kernel
theorem dX12_flow_52 : decode cX12_flow 52 = .ok (.ireturn, 1) := by decide +kernel
def xX12_flow  (l1 : Int32) (l2 : Int32) (l3 : Int32) (M : j_M) : Option (Int32 × j_M) := obi (xX12_isIn l1 (nI 0) (nI 6) M) fun v2 M1 => (if v2 = (0 : Int32) then some ((-1 : Int32), M1) else obi (xX12_isIn l2 (nI 0) (nI 6) M1) fun v4 M3 => (if v4 = (0 : Int32) then some ((-1 : Int32), M3) else obi (xX12_isIn l3 (nI 0) (nI 2) M3) fun v6 M5 => (if v6 = (0 : Int32) then some ((-1 : Int32), M5) else gd (((nI 6814) + ((nI 3) * (((nI 7) * l1) + l2))) + l3) 7460 (oli (M5 201 (ix (((nI 6814) + ((nI 3) * (((nI 7) * l1) + l2))) + l3))) fun v7 => some (v7, M5)))))
set_option maxRecDepth 20000 in
set_option maxHeartbeats 2000000 in
theorem tX12_flow  (l1 : Int32) (l2 : Int32) (l3 : Int32) (M : j_M) : J (ρ := Int32 × j_M) yX12_flow cX12_flow 4 (some .int) 1 22 j_ei 0 [(0, .inr (17, 0, 200)), (1, .inl (l1)), (2, .inl (l2)), (3, .inl (l3))] [] M (xX12_flow  l1 l2 l3 M) := by
  unfold xX12_flow
  refine K_iload_n (q := 1) 1 dX12_flow_0 rfl rfl rfl ?_
  refine K_iconst (q := 2) (v := nI 0) dX12_flow_1 rfl rfl ?_
  refine K_bipush (q := 4) (v := nI 6) dX12_flow_2 rfl rfl ?_
  refine K_csi (q := 7) [.inl (l1), .inl ((nI 0)), .inl ((nI 6))] dX12_flow_4 cb_X12_isIn cvRX12_65 rfl (Nat.le_of_ble_eq_true rfl) ⟨by decide, by decide⟩ (Nat.le_of_ble_eq_true rfl) rfl (tX12_isIn l1 (nI 0) (nI 6) M) rfl (fun v2 M1 => ?_)
  refine K_if_eq (q := 10) (tgt := 51) dX12_flow_7 rfl ?_ rfl ?_
  · refine K_iconst (q := 52) (v := -1) dX12_flow_51 rfl rfl ?_
    exact J_iret dX12_flow_52
  · refine K_iload_n (q := 11) 2 dX12_flow_10 rfl rfl rfl ?_
    refine K_iconst (q := 12) (v := nI 0) dX12_flow_11 rfl rfl ?_
    refine K_bipush (q := 14) (v := nI 6) dX12_flow_12 rfl rfl ?_
    refine K_csi (q := 17) [.inl (l2), .inl ((nI 0)), .inl ((nI 6))] dX12_flow_14 cb_X12_isIn cvRX12_65 rfl (Nat.le_of_ble_eq_true rfl) ⟨by decide, by decide⟩ (Nat.le_of_ble_eq_true rfl) rfl (tX12_isIn l2 (nI 0) (nI 6) M1) rfl (fun v4 M3 => ?_)
    refine K_if_eq (q := 20) (tgt := 51) dX12_flow_17 rfl ?_ rfl ?_
    · refine K_iconst (q := 52) (v := -1) dX12_flow_51 rfl rfl ?_
      exact J_iret dX12_flow_52
    · refine K_iload_n (q := 21) 3 dX12_flow_20 rfl rfl rfl ?_
      refine K_iconst (q := 22) (v := nI 0) dX12_flow_21 rfl rfl ?_
      refine K_iconst (q := 23) (v := nI 2) dX12_flow_22 rfl rfl ?_
      refine K_csi (q := 26) [.inl (l3), .inl ((nI 0)), .inl ((nI 2))] dX12_flow_23 cb_X12_isIn cvRX12_65 rfl (Nat.le_of_ble_eq_true rfl) ⟨by decide, by decide⟩ (Nat.le_of_ble_eq_true rfl) rfl (tX12_isIn l3 (nI 0) (nI 2) M3) rfl (fun v6 M5 => ?_)
      refine K_if_eq (q := 29) (tgt := 51) dX12_flow_26 rfl ?_ rfl ?_
      · refine K_iconst (q := 52) (v := -1) dX12_flow_51 rfl rfl ?_
        exact J_iret dX12_flow_52
      · refine K_aload_n (q := 30) 0 dX12_flow_29 rfl rfl rfl ?_
        refine K_getR (q := 33) (ci := 7) (a2 := 201) 0 dX12_flow_30 fRX12_9 rfl rfl (by decide) rfl rfl ?_
        refine K_sipush (q := 36) (v := nI 6814) dX12_flow_33 rfl rfl ?_
        refine K_iconst (q := 37) (v := nI 3) dX12_flow_36 rfl rfl ?_
        refine K_bipush (q := 39) (v := nI 7) dX12_flow_37 rfl rfl ?_
        refine K_iload_n (q := 40) 1 dX12_flow_39 rfl rfl rfl ?_
        refine K_imul (q := 41) dX12_flow_40 rfl ?_
        refine K_iload_n (q := 42) 2 dX12_flow_41 rfl rfl rfl ?_
        refine K_iadd (q := 43) dX12_flow_42 rfl ?_
        refine K_imul (q := 44) dX12_flow_43 rfl ?_
        refine K_iadd (q := 45) dX12_flow_44 rfl ?_
        refine K_iload_n (q := 46) 3 dX12_flow_45 rfl rfl rfl ?_
        refine K_iadd (q := 47) dX12_flow_46 rfl ?_
        refine K_iald (q := 48) dX12_flow_47 rfl (fun v7 => ?_)
        refine J_goto (tgt := 52) dX12_flow_48 rfl ?_
        exact J_iret dX12_flow_52
theorem dX12_actsOf_0 : decode cX12_actsOf 0 = .ok (.aload_n 0, 1) := by decide +kernel
theorem dX12_actsOf_1 : decode cX12_actsOf 1 = .ok (.getfield 9, 3) := by decide +kernel
theorem dX12_actsOf_4 : decode cX12_actsOf 4 = .ok (.sipush 3118, 3) := by decide +kernel
theorem dX12_actsOf_7 : decode cX12_actsOf 7 = .ok (.iload_n 1, 1) := by decide +kernel
theorem dX12_actsOf_8 : decode cX12_actsOf 8 = .ok (.iadd, 1) := by decide +kernel
theorem dX12_actsOf_9 : decode cX12_actsOf 9 = .ok (.iaload, 1) := by decide +kernel
theorem dX12_actsOf_10 : decode cX12_actsOf 10 = .ok (.aload_n 0, 1) := by decide +kernel
theorem dX12_actsOf_11 : decode cX12_actsOf 11 = .ok (.getfield 9, 3) := by decide +kernel
theorem dX12_actsOf_14 : decode cX12_actsOf 14 = .ok (.sipush 3112, 3) := by decide +kernel
theorem dX12_actsOf_17 : decode cX12_actsOf 17 = .ok (.iload_n 1, 1) := by decide +kernel
theorem dX12_actsOf_18 : decode cX12_actsOf 18 = .ok (.iadd, 1) := by decide +kernel
theorem dX12_actsOf_19 : decode cX12_actsOf 19 = .ok (.iaload, 1) := by decide +kernel
theorem dX12_actsOf_20 : decode cX12_actsOf 20 = .ok (.if_icmp .eq 36, 3) := by decide +kernel
theorem dX12_actsOf_23 : decode cX12_actsOf 23 = .ok (.aload_n 0, 1) := by decide +kernel
theorem dX12_actsOf_24 : decode cX12_actsOf 24 = .ok (.getfield 9, 3) := by decide +kernel
theorem dX12_actsOf_27 : decode cX12_actsOf 27 = .ok (.sipush 292, 3) := by decide +kernel
theorem dX12_actsOf_30 : decode cX12_actsOf 30 = .ok (.iload_n 1, 1) := by decide +kernel
theorem dX12_actsOf_31 : decode cX12_actsOf 31 = .ok (.iadd, 1) := by decide +kernel
theorem dX12_actsOf_32 : decode cX12_actsOf 32 = .ok (.iaload, 1) := by decide +kernel
theorem dX12_actsOf_33 : decode cX12_actsOf 33 = .ok (.iconst (-1), 1) := by decide +kernel
theorem dX12_actsOf_34 : decode cX12_actsOf 34 = .ok (.if_icmp .ne 22, 3) := by decide +kernel
theorem dX12_actsOf_37 : decode cX12_actsOf 37 = .ok (.aload_n 0, 1) := by decide +kernel
theorem dX12_actsOf_38 : decode cX12_actsOf 38 = .ok (.getfield 9, 3) := by decide +kernel
theorem dX12_actsOf_41 : decode cX12_actsOf 41 = .ok (.iconst 5, 1) := by decide +kernel
theorem dX12_actsOf_42 : decode cX12_actsOf 42 = .ok (.iaload, 1) := by decide +kernel
theorem dX12_actsOf_43 : decode cX12_actsOf 43 = .ok (.aload_n 0, 1) := by decide +kernel
theorem dX12_actsOf_44 : decode cX12_actsOf 44 = .ok (.getfield 9, 3) := by decide +kernel
theorem dX12_actsOf_47 : decode cX12_actsOf 47 = .ok (.sipush 3124, 3) := by decide +kernel
theorem dX12_actsOf_50 : decode cX12_actsOf 50 = .ok (.iload_n 1, 1) := by decide +kernel
theorem dX12_actsOf_51 : decode cX12_actsOf 51 = .ok (.iadd, 1) := by decide +kernel
theorem dX12_actsOf_52 : decode cX12_actsOf 52 = .ok (.iaload, 1) := by decide +kernel
theorem dX12_actsOf_53 : decode cX12_actsOf 53 = .ok (.if_icmp .ge 4, 3) := by decide +kernel
theorem dX12_actsOf_56 : decode cX12_actsOf 56 = .ok (.return_, 1) := by decide +kernel
theorem dX12_actsOf_57 : decode cX12_actsOf 57 = .ok (.sipush 3130, 3) := by decide +kernel
theorem dX12_actsOf_60 : decode cX12_actsOf 60 = .ok (.iconst 3, 1) := by decide +kernel
theorem dX12_actsOf_61 : decode cX12_actsOf 61 = .ok (.sipush 200, 3) := by decide +kernel
theorem dX12_actsOf_64 : decode cX12_actsOf 64 = .ok (.iload_n 1, 1) := by decide +kernel
theorem dX12_actsOf_65 : decode cX12_actsOf 65 = .ok (.imul, 1) := by decide +kernel
theorem dX12_actsOf_66 : decode cX12_actsOf 66 = .ok (.aload_n 0, 1) := by decide +kernel
theorem dX12_actsOf_67 : decode cX12_actsOf 67 = .ok (.getfield 9, 3) := by decide +kernel
theorem dX12_actsOf_70 : decode cX12_actsOf 70 = .ok (.sipush 3118, 3) := by decide +kernel
theorem dX12_actsOf_73 : decode cX12_actsOf 73 = .ok (.iload_n 1, 1) := by decide +kernel
theorem dX12_actsOf_74 : decode cX12_actsOf 74 = .ok (.iadd, 1) := by decide +kernel
theorem dX12_actsOf_75 : decode cX12_actsOf 75 = .ok (.iaload, 1) := by decide +kernel
theorem dX12_actsOf_76 : decode cX12_actsOf 76 = .ok (.iadd, 1) := by decide +kernel
theorem dX12_actsOf_77 : decode cX12_actsOf 77 = .ok (.imul, 1) := by decide +kernel
theorem dX12_actsOf_78 : decode cX12_actsOf 78 = .ok (.iadd, 1) := by decide +kernel
theorem dX12_actsOf_79 : decode cX12_actsOf 79 = .ok (.istore_n 2, 1) := by decide +kernel
theorem dX12_actsOf_80 : decode cX12_actsOf 80 = .ok (.aload_n 0, 1) := by decide +kernel
theorem dX12_actsOf_81 : decode cX12_actsOf 81 = .ok (.getfield 9, 3) := by decide +kernel
theorem dX12_actsOf_84 : decode cX12_actsOf 84 = .ok (.sipush 3118, 3) := by decide +kernel
theorem dX12_actsOf_87 : decode cX12_actsOf 87 = .ok (.iload_n 1, 1) := by decide +kernel
theorem dX12_actsOf_88 : decode cX12_actsOf 88 = .ok (.iadd, 1) := by decide +kernel
theorem dX12_actsOf_89 : decode cX12_actsOf 89 = .ok (.dup2, 1) := by decide +kernel
theorem dX12_actsOf_90 : decode cX12_actsOf 90 = .ok (.iaload, 1) := by decide +kernel
theorem dX12_actsOf_91 : decode cX12_actsOf 91 = .ok (.iconst 1, 1) := by decide +kernel
theorem dX12_actsOf_92 : decode cX12_actsOf 92 = .ok (.iadd, 1) := by decide +kernel
theorem dX12_actsOf_93 : decode cX12_actsOf 93 = .ok (.iastore, 1) := by decide +kernel
theorem dX12_actsOf_94 : decode cX12_actsOf 94 = .ok (.aload_n 0, 1) := by decide +kernel
theorem dX12_actsOf_95 : decode cX12_actsOf 95 = .ok (.getfield 9, 3) := by decide +kernel
theorem dX12_actsOf_98 : decode cX12_actsOf 98 = .ok (.iload_n 2, 1) := by decide +kernel
theorem dX12_actsOf_99 : decode cX12_actsOf 99 = .ok (.iaload, 1) := by decide +kernel
theorem dX12_actsOf_100 : decode cX12_actsOf 100 = .ok (.iconst 3, 1) := by decide +kernel
theorem dX12_actsOf_101 : decode cX12_actsOf 101 = .ok (.if_icmp .ne 31, 3) := by decide +kernel
theorem dX12_actsOf_104 : decode cX12_actsOf 104 = .ok (.aload_n 0, 1) := by decide +kernel
theorem dX12_actsOf_105 : decode cX12_actsOf 105 = .ok (.getfield 9, 3) := by decide +kernel
theorem dX12_actsOf_108 : decode cX12_actsOf 108 = .ok (.sipush 3124, 3) := by decide +kernel
theorem dX12_actsOf_111 : decode cX12_actsOf 111 = .ok (.iload_n 1, 1) := by decide +kernel
theorem dX12_actsOf_112 : decode cX12_actsOf 112 = .ok (.iadd, 1) := by decide +kernel
theorem dX12_actsOf_113 : decode cX12_actsOf 113 = .ok (.aload_n 0, 1) := by decide +kernel
theorem dX12_actsOf_114 : decode cX12_actsOf 114 = .ok (.getfield 9, 3) := by decide +kernel
theorem dX12_actsOf_117 : decode cX12_actsOf 117 = .ok (.iconst 5, 1) := by decide +kernel
theorem dX12_actsOf_118 : decode cX12_actsOf 118 = .ok (.iaload, 1) := by decide +kernel
theorem dX12_actsOf_119 : decode cX12_actsOf 119 = .ok (.aload_n 0, 1) := by decide +kernel
theorem dX12_actsOf_120 : decode cX12_actsOf 120 = .ok (.getfield 9, 3) := by decide +kernel
theorem dX12_actsOf_123 : decode cX12_actsOf 123 = .ok (.iload_n 2, 1) := by decide +kernel
theorem dX12_actsOf_124 : decode cX12_actsOf 124 = .ok (.iconst 1, 1) := by decide +kernel
theorem dX12_actsOf_125 : decode cX12_actsOf 125 = .ok (.iadd, 1) := by decide +kernel
theorem dX12_actsOf_126 : decode cX12_actsOf 126 = .ok (.iaload, 1) := by decide +kernel
theorem dX12_actsOf_127 : decode cX12_actsOf 127 = .ok (.iadd, 1) := by decide +kernel
theorem dX12_actsOf_128 : decode cX12_actsOf 128 = .ok (.iastore, 1) := by decide +kernel
theorem dX12_actsOf_129 : decode cX12_actsOf 129 = .ok (.goto 33, 3) := by decide +kernel
theorem dX12_actsOf_132 : decode cX12_actsOf 132 = .ok (.aload_n 0, 1) := by decide +kernel
theorem dX12_actsOf_133 : decode cX12_actsOf 133 = .ok (.iload_n 1, 1) := by decide +kernel
theorem dX12_actsOf_134 : decode cX12_actsOf 134 = .ok (.aload_n 0, 1) := by decide +kernel
theorem dX12_actsOf_135 : decode cX12_actsOf 135 = .ok (.getfield 9, 3) := by decide +kernel
theorem dX12_actsOf_138 : decode cX12_actsOf 138 = .ok (.iload_n 2, 1) := by decide +kernel
theorem dX12_actsOf_139 : decode cX12_actsOf 139 = .ok (.iconst 1, 1) := by decide +kernel
theorem dX12_actsOf_140 : decode cX12_actsOf 140 = .ok (.iadd, 1) := by decide +kernel
theorem dX12_actsOf_141 : decode cX12_actsOf 141 = .ok (.iaload, 1) := by decide +kernel
theorem dX12_actsOf_142 : decode cX12_actsOf 142 = .ok (.aload_n 0, 1) := by decide +kernel
theorem dX12_actsOf_143 : decode cX12_actsOf 143 = .ok (.getfield 9, 3) := by decide +kernel
theorem dX12_actsOf_146 : decode cX12_actsOf 146 = .ok (.iload_n 2, 1) := by decide +kernel
theorem dX12_actsOf_147 : decode cX12_actsOf 147 = .ok (.iaload, 1) := by decide +kernel
theorem dX12_actsOf_148 : decode cX12_actsOf 148 = .ok (.iconst 1, 1) := by decide +kernel
theorem dX12_actsOf_149 : decode cX12_actsOf 149 = .ok (.iadd, 1) := by decide +kernel
theorem dX12_actsOf_150 : decode cX12_actsOf 150 = .ok (.aload_n 0, 1) := by decide +kernel
theorem dX12_actsOf_151 : decode cX12_actsOf 151 = .ok (.getfield 9, 3) := by decide +kernel
theorem dX12_actsOf_154 : decode cX12_actsOf 154 = .ok (.iload_n 2, 1) := by decide +kernel
theorem dX12_actsOf_155 : decode cX12_actsOf 155 = .ok (.iconst 2, 1) := by decide +kernel
theorem dX12_actsOf_156 : decode cX12_actsOf 156 = .ok (.iadd, 1) := by decide +kernel
theorem dX12_actsOf_157 : decode cX12_actsOf 157 = .ok (.iaload, 1) := by decide +kernel
theorem dX12_actsOf_158 : decode cX12_actsOf 158 = .ok (.invokevirtual 152, 3) := by decide +kernel
theorem dX12_actsOf_161 : decode cX12_actsOf 161 = .ok (.pop, 1) := by decide +kernel
theorem dX12_actsOf_162 : decode cX12_actsOf 162 = .ok (.return_, 1) := by decide +kernel
def xX12_actsOf  (l1 : Int32) (M : j_M) : Option (j_M) := gd ((nI 3118) + l1) 7460 (oli (M 201 (ix ((nI 3118) + l1))) fun v1 => gd ((nI 3112) + l1) 7460 (oli (M 201 (ix ((nI 3112) + l1))) fun v2 => (if v1 = v2 then some M else gd ((nI 292) + l1) 7460 (oli (M 201 (ix ((nI 292) + l1))) fun v3 => (if v3 = (-1 : Int32) then gd (nI 5) 7460 (oli (M 201 (ix (nI 5))) fun v4 => gd ((nI 3124) + l1) 7460 (oli (M 201 (ix ((nI 3124) + l1))) fun v5 => (if v5 ≤ v4 then gd ((nI 3118) + l1) 7460 (oli (M 201 (ix ((nI 3118) + l1))) fun v6 => gd ((nI 3118) + l1) 7460 (oli (M 201 (ix ((nI 3118) + l1))) fun v7 => gd ((nI 3118) + l1) 7460 (oml (mw M 201 (ix ((nI 3118) + l1)) (v7 + (nI 1))) fun M8 => gd ((nI 3130) + ((nI 3) * (((nI 200) * l1) + v6))) 7460 (oli (M8 201 (ix ((nI 3130) + ((nI 3) * (((nI 200) * l1) + v6))))) fun v9 => (if v9 = (nI 3) then gd (nI 5) 7460 (oli (M8 201 (ix (nI 5))) fun v15 => gd (((nI 3130) + ((nI 3) * (((nI 200) * l1) + v6))) + (nI 1)) 7460 (oli (M8 201 (ix (((nI 3130) + ((nI 3) * (((nI 200) * l1) + v6))) + (nI 1)))) fun v16 => gd ((nI 3124) + l1) 7460 (oml (mw M8 201 (ix ((nI 3124) + l1)) (v15 + v16)) fun M17 => some M17))) else gd (((nI 3130) + ((nI 3) * (((nI 200) * l1) + v6))) + (nI 1)) 7460 (oli (M8 201 (ix (((nI 3130) + ((nI 3) * (((nI 200) * l1) + v6))) + (nI 1)))) fun v10 => gd ((nI 3130) + ((nI 3) * (((nI 200) * l1) + v6))) 7460 (oli (M8 201 (ix ((nI 3130) + ((nI 3) * (((nI 200) * l1) + v6))))) fun v11 => gd (((nI 3130) + ((nI 3) * (((nI 200) * l1) + v6))) + (nI 2)) 7460 (oli (M8 201 (ix (((nI 3130) + ((nI 3) * (((nI 200) * l1) + v6))) + (nI 2)))) fun v12 => obi (xX12_begins l1 v10 (v11 + (nI 1)) v12 M8) fun v14 M13 => some M13)))))))) else some M))) else some M)))))
set_option maxRecDepth 20000 in
set_option maxHeartbeats 2000000 in
theorem tX12_actsOf  (l1 : Int32) (M : j_M) : J (ρ := j_M) yX12_actsOf cX12_actsOf 3 none 6 139 j_ev 0 [(0, .inr (17, 0, 200)), (1, .inl (l1))] [] M (xX12_actsOf  l1 M) := by
  unfold xX12_actsOf
  refine K_aload_n (q := 1) 0 dX12_actsOf_0 rfl rfl rfl ?_
  refine K_getR (q := 4) (ci := 7) (a2 := 201) 0 dX12_actsOf_1 fRX12_9 rfl rfl (by decide) rfl rfl ?_
  refine K_sipush (q := 7) (v := nI 3118) dX12_actsOf_4 rfl rfl ?_
  refine K_iload_n (q := 8) 1 dX12_actsOf_7 rfl rfl rfl ?_
  refine K_iadd (q := 9) dX12_actsOf_8 rfl ?_
  refine K_iald (q := 10) dX12_actsOf_9 rfl (fun v1 => ?_)
  refine K_aload_n (q := 11) 0 dX12_actsOf_10 rfl rfl rfl ?_
  refine K_getR (q := 14) (ci := 7) (a2 := 201) 0 dX12_actsOf_11 fRX12_9 rfl rfl (by decide) rfl rfl ?_
  refine K_sipush (q := 17) (v := nI 3112) dX12_actsOf_14 rfl rfl ?_
  refine K_iload_n (q := 18) 1 dX12_actsOf_17 rfl rfl rfl ?_
  refine K_iadd (q := 19) dX12_actsOf_18 rfl ?_
  refine K_iald (q := 20) dX12_actsOf_19 rfl (fun v2 => ?_)
  refine K_icmp_eq (q := 23) (tgt := 56) dX12_actsOf_20 rfl ?_ rfl ?_
  · exact J_vret dX12_actsOf_56
  · refine K_aload_n (q := 24) 0 dX12_actsOf_23 rfl rfl rfl ?_
    refine K_getR (q := 27) (ci := 7) (a2 := 201) 0 dX12_actsOf_24 fRX12_9 rfl rfl (by decide) rfl rfl ?_
    refine K_sipush (q := 30) (v := nI 292) dX12_actsOf_27 rfl rfl ?_
    refine K_iload_n (q := 31) 1 dX12_actsOf_30 rfl rfl rfl ?_
    refine K_iadd (q := 32) dX12_actsOf_31 rfl ?_
    refine K_iald (q := 33) dX12_actsOf_32 rfl (fun v3 => ?_)
    refine K_iconst (q := 34) (v := -1) dX12_actsOf_33 rfl rfl ?_
    refine K_icmp_ne (q := 37) (tgt := 56) dX12_actsOf_34 rfl ?_ rfl ?_
    · exact J_vret dX12_actsOf_56
    · refine K_aload_n (q := 38) 0 dX12_actsOf_37 rfl rfl rfl ?_
      refine K_getR (q := 41) (ci := 7) (a2 := 201) 0 dX12_actsOf_38 fRX12_9 rfl rfl (by decide) rfl rfl ?_
      refine K_iconst (q := 42) (v := nI 5) dX12_actsOf_41 rfl rfl ?_
      refine K_iald (q := 43) dX12_actsOf_42 rfl (fun v4 => ?_)
      refine K_aload_n (q := 44) 0 dX12_actsOf_43 rfl rfl rfl ?_
      refine K_getR (q := 47) (ci := 7) (a2 := 201) 0 dX12_actsOf_44 fRX12_9 rfl rfl (by decide) rfl rfl ?_
      refine K_sipush (q := 50) (v := nI 3124) dX12_actsOf_47 rfl rfl ?_
      refine K_iload_n (q := 51) 1 dX12_actsOf_50 rfl rfl rfl ?_
      refine K_iadd (q := 52) dX12_actsOf_51 rfl ?_
      refine K_iald (q := 53) dX12_actsOf_52 rfl (fun v5 => ?_)
      refine K_icmp_ge (q := 56) (tgt := 57) dX12_actsOf_53 rfl ?_ rfl ?_
      · refine K_sipush (q := 60) (v := nI 3130) dX12_actsOf_57 rfl rfl ?_
        refine K_iconst (q := 61) (v := nI 3) dX12_actsOf_60 rfl rfl ?_
        refine K_sipush (q := 64) (v := nI 200) dX12_actsOf_61 rfl rfl ?_
        refine K_iload_n (q := 65) 1 dX12_actsOf_64 rfl rfl rfl ?_
        refine K_imul (q := 66) dX12_actsOf_65 rfl ?_
        refine K_aload_n (q := 67) 0 dX12_actsOf_66 rfl rfl rfl ?_
        refine K_getR (q := 70) (ci := 7) (a2 := 201) 0 dX12_actsOf_67 fRX12_9 rfl rfl (by decide) rfl rfl ?_
        refine K_sipush (q := 73) (v := nI 3118) dX12_actsOf_70 rfl rfl ?_
        refine K_iload_n (q := 74) 1 dX12_actsOf_73 rfl rfl rfl ?_
        refine K_iadd (q := 75) dX12_actsOf_74 rfl ?_
        refine K_iald (q := 76) dX12_actsOf_75 rfl (fun v6 => ?_)
        refine K_iadd (q := 77) dX12_actsOf_76 rfl ?_
        refine K_imul (q := 78) dX12_actsOf_77 rfl ?_
        refine K_iadd (q := 79) dX12_actsOf_78 rfl ?_
        refine K_istore_n (q := 80) (ll' := [(2, .inl ((nI 3130) + ((nI 3) * (((nI 200) * l1) + v6)))), (0, .inr (17, 0, 200)), (1, .inl (l1))]) dX12_actsOf_79 rfl (by decide) rfl rfl ?_
        refine K_aload_n (q := 81) 1 dX12_actsOf_80 rfl rfl rfl ?_
        refine K_getR (q := 84) (ci := 7) (a2 := 201) 0 dX12_actsOf_81 fRX12_9 rfl rfl (by decide) rfl rfl ?_
        refine K_sipush (q := 87) (v := nI 3118) dX12_actsOf_84 rfl rfl ?_
        refine K_iload_n (q := 88) 2 dX12_actsOf_87 rfl rfl rfl ?_
        refine K_iadd (q := 89) dX12_actsOf_88 rfl ?_
        refine K_dup2 (q := 90) dX12_actsOf_89 rfl ?_
        refine K_iald (q := 91) dX12_actsOf_90 rfl (fun v7 => ?_)
        refine K_iconst (q := 92) (v := nI 1) dX12_actsOf_91 rfl rfl ?_
        refine K_iadd (q := 93) dX12_actsOf_92 rfl ?_
        refine K_iast (q := 94) dX12_actsOf_93 rfl (fun M8 => ?_)
        refine K_aload_n (q := 95) 1 dX12_actsOf_94 rfl rfl rfl ?_
        refine K_getR (q := 98) (ci := 7) (a2 := 201) 0 dX12_actsOf_95 fRX12_9 rfl rfl (by decide) rfl rfl ?_
        refine K_iload_n (q := 99) 0 dX12_actsOf_98 rfl rfl rfl ?_
        refine K_iald (q := 100) dX12_actsOf_99 rfl (fun v9 => ?_)
        refine K_iconst (q := 101) (v := nI 3) dX12_actsOf_100 rfl rfl ?_
        refine K_icmp_ne (q := 104) (tgt := 132) dX12_actsOf_101 rfl ?_ rfl ?_
        · refine K_aload_n (q := 133) 1 dX12_actsOf_132 rfl rfl rfl ?_
          refine K_iload_n (q := 134) 2 dX12_actsOf_133 rfl rfl rfl ?_
          refine K_aload_n (q := 135) 1 dX12_actsOf_134 rfl rfl rfl ?_
          refine K_getR (q := 138) (ci := 7) (a2 := 201) 0 dX12_actsOf_135 fRX12_9 rfl rfl (by decide) rfl rfl ?_
          refine K_iload_n (q := 139) 0 dX12_actsOf_138 rfl rfl rfl ?_
          refine K_iconst (q := 140) (v := nI 1) dX12_actsOf_139 rfl rfl ?_
          refine K_iadd (q := 141) dX12_actsOf_140 rfl ?_
          refine K_iald (q := 142) dX12_actsOf_141 rfl (fun v10 => ?_)
          refine K_aload_n (q := 143) 1 dX12_actsOf_142 rfl rfl rfl ?_
          refine K_getR (q := 146) (ci := 7) (a2 := 201) 0 dX12_actsOf_143 fRX12_9 rfl rfl (by decide) rfl rfl ?_
          refine K_iload_n (q := 147) 0 dX12_actsOf_146 rfl rfl rfl ?_
          refine K_iald (q := 148) dX12_actsOf_147 rfl (fun v11 => ?_)
          refine K_iconst (q := 149) (v := nI 1) dX12_actsOf_148 rfl rfl ?_
          refine K_iadd (q := 150) dX12_actsOf_149 rfl ?_
          refine K_aload_n (q := 151) 1 dX12_actsOf_150 rfl rfl rfl ?_
          refine K_getR (q := 154) (ci := 7) (a2 := 201) 0 dX12_actsOf_151 fRX12_9 rfl rfl (by decide) rfl rfl ?_
          refine K_iload_n (q := 155) 0 dX12_actsOf_154 rfl rfl rfl ?_
          refine K_iconst (q := 156) (v := nI 2) dX12_actsOf_155 rfl rfl ?_
          refine K_iadd (q := 157) dX12_actsOf_156 rfl ?_
          refine K_iald (q := 158) dX12_actsOf_157 rfl (fun v12 => ?_)
          refine K_cvi (q := 161) [.inl (l1), .inl (v10), .inl (v11 + (nI 1)), .inl (v12)] dX12_actsOf_158 cb_X12_begins cvRX12_152 rc_7 (show (17 : Nat) ≠ 0 by decide) rfl (Nat.le_of_ble_eq_true rfl) ⟨by decide, by decide⟩ (Nat.le_of_ble_eq_true rfl) rfl (tX12_begins l1 v10 (v11 + (nI 1)) v12 M8) rfl (fun v14 M13 => ?_)
          refine K_pop (q := 162) dX12_actsOf_161 rfl ?_
          exact J_vret dX12_actsOf_162
        · refine K_aload_n (q := 105) 1 dX12_actsOf_104 rfl rfl rfl ?_
          refine K_getR (q := 108) (ci := 7) (a2 := 201) 0 dX12_actsOf_105 fRX12_9 rfl rfl (by decide) rfl rfl ?_
          refine K_sipush (q := 111) (v := nI 3124) dX12_actsOf_108 rfl rfl ?_
          refine K_iload_n (q := 112) 2 dX12_actsOf_111 rfl rfl rfl ?_
          refine K_iadd (q := 113) dX12_actsOf_112 rfl ?_
          refine K_aload_n (q := 114) 1 dX12_actsOf_113 rfl rfl rfl ?_
          refine K_getR (q := 117) (ci := 7) (a2 := 201) 0 dX12_actsOf_114 fRX12_9 rfl rfl (by decide) rfl rfl ?_
          refine K_iconst (q := 118) (v := nI 5) dX12_actsOf_117 rfl rfl ?_
          refine K_iald (q := 119) dX12_actsOf_118 rfl (fun v15 => ?_)
          refine K_aload_n (q := 120) 1 dX12_actsOf_119 rfl rfl rfl ?_
          refine K_getR (q := 123) (ci := 7) (a2 := 201) 0 dX12_actsOf_120 fRX12_9 rfl rfl (by decide) rfl rfl ?_
          refine K_iload_n (q := 124) 0 dX12_actsOf_123 rfl rfl rfl ?_
          refine K_iconst (q := 125) (v := nI 1) dX12_actsOf_124 rfl rfl ?_
          refine K_iadd (q := 126) dX12_actsOf_125 rfl ?_
          refine K_iald (q := 127) dX12_actsOf_126 rfl (fun v16 => ?_)
          refine K_iadd (q := 128) dX12_actsOf_127 rfl ?_
          refine K_iast (q := 129) dX12_actsOf_128 rfl (fun M17 => ?_)
          refine J_goto (tgt := 162) dX12_actsOf_129 rfl ?_
          exact J_vret dX12_actsOf_162
      · exact J_vret dX12_actsOf_56
theorem dX12_go_0 : decode cX12_go 0 = .ok (.iload_n 1, 1) := by decide +kernel
theorem dX12_go_1 : decode cX12_go 1 = .ok (.iconst 1, 1) := by decide +kernel
theorem dX12_go_2 : decode cX12_go 2 = .ok (.bipush 60, 2) := by decide +kernel
theorem dX12_go_4 : decode cX12_go 4 = .ok (.invokestatic 65, 3) := by decide +kernel
theorem dX12_go_7 : decode cX12_go 7 = .ok (.ifCond .eq 26, 3) := by decide +kernel
theorem dX12_go_10 : decode cX12_go 10 = .ok (.iload_n 2, 1) := by decide +kernel
theorem dX12_go_11 : decode cX12_go 11 = .ok (.iconst 0, 1) := by decide +kernel
theorem dX12_go_12 : decode cX12_go 12 = .ok (.iconst 2, 1) := by decide +kernel
theorem dX12_go_13 : decode cX12_go 13 = .ok (.invokestatic 65, 3) := by decide +kernel
theorem dX12_go_16 : decode cX12_go 16 = .ok (.ifCond .eq 17, 3) := by decide +kernel
theorem dX12_go_19 : decode cX12_go 19 = .ok (.aload_n 0, 1) := by decide +kernel
theorem dX12_go_20 : decode cX12_go 20 = .ok (.getfield 9, 3) := by decide +kernel
theorem dX12_go_23 : decode cX12_go 23 = .ok (.iconst 5, 1) := by decide +kernel
theorem dX12_go_24 : decode cX12_go 24 = .ok (.iaload, 1) := by decide +kernel
theorem dX12_go_25 : decode cX12_go 25 = .ok (.iload_n 1, 1) := by decide +kernel
theorem dX12_go_26 : decode cX12_go 26 = .ok (.iadd, 1) := by decide +kernel
theorem dX12_go_27 : decode cX12_go 27 = .ok (.sipush 9999, 3) := by decide +kernel
theorem dX12_go_30 : decode cX12_go 30 = .ok (.if_icmp .le 5, 3) := by decide +kernel
theorem dX12_go_33 : decode cX12_go 33 = .ok (.iconst (-1), 1) := by decide +kernel
theorem dX12_go_34 : decode cX12_go 34 = .ok (.ireturn, 1) := by decide +kernel
theorem dX12_go_35 : decode cX12_go 35 = .ok (.aload_n 0, 1) := by decide +kernel
theorem dX12_go_36 : decode cX12_go 36 = .ok (.getfield 9, 3) := by decide +kernel
theorem dX12_go_39 : decode cX12_go 39 = .ok (.bipush 10, 2) := by decide +kernel
theorem dX12_go_41 : decode cX12_go 41 = .ok (.iaload, 1) := by decide +kernel
theorem dX12_go_42 : decode cX12_go 42 = .ok (.istore_n 3, 1) := by decide +kernel
theorem dX12_go_43 : decode cX12_go 43 = .ok (.iconst 0, 1) := by decide +kernel
theorem dX12_go_44 : decode cX12_go 44 = .ok (.istore 4, 2) := by decide +kernel
theorem dX12_go_46 : decode cX12_go 46 = .ok (.iload 4, 2) := by decide +kernel
theorem dX12_go_48 : decode cX12_go 48 = .ok (.iload_n 1, 1) := by decide +kernel
theorem dX12_go_49 : decode cX12_go 49 = .ok (.if_icmp .ge 105, 3) := by decide +kernel
theorem dX12_go_52 : decode cX12_go 52 = .ok (.iconst 0, 1) := by decide +kernel
theorem dX12_go_53 : decode cX12_go 53 = .ok (.istore 5, 2) := by decide +kernel
theorem dX12_go_55 : decode cX12_go 55 = .ok (.iload 5, 2) := by decide +kernel
theorem dX12_go_57 : decode cX12_go 57 = .ok (.aload_n 0, 1) := by decide +kernel
theorem dX12_go_58 : decode cX12_go 58 = .ok (.getfield 9, 3) := by decide +kernel
theorem dX12_go_61 : decode cX12_go 61 = .ok (.iconst 0, 1) := by decide +kernel
theorem dX12_go_62 : decode cX12_go 62 = .ok (.iaload, 1) := by decide +kernel
theorem dX12_go_63 : decode cX12_go 63 = .ok (.if_icmp .ge 15, 3) := by decide +kernel
theorem dX12_go_66 : decode cX12_go 66 = .ok (.aload_n 0, 1) := by decide +kernel
theorem dX12_go_67 : decode cX12_go 67 = .ok (.iload 5, 2) := by decide +kernel
theorem dX12_go_69 : decode cX12_go 69 = .ok (.invokevirtual 352, 3) := by decide +kernel
theorem dX12_go_72 : decode cX12_go 72 = .ok (.iinc 5 1, 3) := by decide +kernel
theorem dX12_go_75 : decode cX12_go 75 = .ok (.goto (-20), 3) := by decide +kernel
theorem dX12_go_78 : decode cX12_go 78 = .ok (.iconst 0, 1) := by decide +kernel
theorem dX12_go_79 : decode cX12_go 79 = .ok (.istore 5, 2) := by decide +kernel
theorem dX12_go_81 : decode cX12_go 81 = .ok (.iload 5, 2) := by decide +kernel
theorem dX12_go_83 : decode cX12_go 83 = .ok (.iconst 3, 1) := by decide +kernel
theorem dX12_go_84 : decode cX12_go 84 = .ok (.if_icmp .ge 60, 3) := by decide +kernel
theorem dX12_go_87 : decode cX12_go 87 = .ok (.aload_n 0, 1) := by decide +kernel
theorem dX12_go_88 : decode cX12_go 88 = .ok (.getfield 9, 3) := by decide +kernel
theorem dX12_go_91 : decode cX12_go 91 = .ok (.bipush 7, 2) := by decide +kernel
theorem dX12_go_93 : decode cX12_go 93 = .ok (.iaload, 1) := by decide +kernel
theorem dX12_go_94 : decode cX12_go 94 = .ok (.ifCond .le 50, 3) := by decide +kernel
theorem dX12_go_97 : decode cX12_go 97 = .ok (.aload_n 0, 1) := by decide +kernel
theorem dX12_go_98 : decode cX12_go 98 = .ok (.iload_n 2, 1) := by decide +kernel
theorem dX12_go_99 : decode cX12_go 99 = .ok (.ifCond .ne 7, 3) := by decide +kernel
theorem dX12_go_102 : decode cX12_go 102 = .ok (.iconst 0, 1) := by decide +kernel
theorem dX12_go_103 : decode cX12_go 103 = .ok (.goto 31, 3) := by decide +kernel
theorem dX12_go_106 : decode cX12_go 106 = .ok (.iload_n 2, 1) := by decide +kernel
theorem dX12_go_107 : decode cX12_go 107 = .ok (.iconst 1, 1) := by decide +kernel
theorem dX12_go_108 : decode cX12_go 108 = .ok (.if_icmp .ne 15, 3) := by decide +kernel
theorem dX12_go_111 : decode cX12_go 111 = .ok (.aload_n 0, 1) := by decide +kernel
theorem dX12_go_112 : decode cX12_go 112 = .ok (.getfield 9, 3) := by decide +kernel
theorem dX12_go_115 : decode cX12_go 115 = .ok (.bipush 7, 2) := by decide +kernel
theorem dX12_go_117 : decode cX12_go 117 = .ok (.iaload, 1) := by decide +kernel
theorem dX12_go_118 : decode cX12_go 118 = .ok (.iconst 1, 1) := by decide +kernel
theorem dX12_go_119 : decode cX12_go 119 = .ok (.isub, 1) := by decide +kernel
theorem dX12_go_120 : decode cX12_go 120 = .ok (.goto 14, 3) := by decide +kernel
theorem dX12_go_123 : decode cX12_go 123 = .ok (.aload_n 0, 1) := by decide +kernel
theorem dX12_go_124 : decode cX12_go 124 = .ok (.aload_n 0, 1) := by decide +kernel
theorem dX12_go_125 : decode cX12_go 125 = .ok (.getfield 9, 3) := by decide +kernel
theorem dX12_go_128 : decode cX12_go 128 = .ok (.bipush 7, 2) := by decide +kernel
theorem dX12_go_130 : decode cX12_go 130 = .ok (.iaload, 1) := by decide +kernel
theorem dX12_go_131 : decode cX12_go 131 = .ok (.invokevirtual 355, 3) := by decide +kernel
theorem dX12_go_134 : decode cX12_go 134 = .ok (.invokevirtual 178, 3) := by decide +kernel
theorem dX12_go_137 : decode cX12_go 137 = .ok (.pop, 1) := by decide +kernel
theorem dX12_go_138 : decode cX12_go 138 = .ok (.iinc 5 1, 3) := by decide +kernel
theorem dX12_go_141 : decode cX12_go 141 = .ok (.goto (-60), 3) := by decide +kernel
theorem dX12_go_144 : decode cX12_go 144 = .ok (.aload_n 0, 1) := by decide +kernel
theorem dX12_go_145 : decode cX12_go 145 = .ok (.invokevirtual 191, 3) := by decide +kernel
theorem dX12_go_148 : decode cX12_go 148 = .ok (.iinc 4 1, 3) := by decide +kernel
theorem dX12_go_151 : decode cX12_go 151 = .ok (.goto (-105), 3) := by decide +kernel
theorem dX12_go_154 : decode cX12_go 154 = .ok (.aload_n 0, 1) := by decide +kernel
theorem dX12_go_155 : decode cX12_go 155 = .ok (.getfield 9, 3) := by decide +kernel
theorem dX12_go_158 : decode cX12_go 158 = .ok (.bipush 10, 2) := by decide +kernel
theorem dX12_go_160 : decode cX12_go 160 = .ok (.iaload, 1) := by decide +kernel
theorem dX12_go_161 : decode cX12_go 161 = .ok (.iload_n 3, 1) := by decide +kernel
theorem dX12_go_162 : decode cX12_go 162 = .ok (.isub, 1) := by decide +kernel
theorem dX12_go_163 : decode cX12_go 163 = .ok (.ireturn, 1) := by decide +kernel
def xX12_go_144 (k46 : Int32 → Int32 → Int32 → Int32 → j_M → Option (Int32 × j_M))  (l1 : Int32) (l2 : Int32) (l3 : Int32) (l4 : Int32) (M : j_M) : Option (Int32 × j_M) := obv (xX12_ticksOnce M) fun M1 => k46 l1 l2 l3 (l4 + (nI 1)) M1
set_option maxRecDepth 20000 in
set_option maxHeartbeats 2000000 in
theorem tX12_go_144 (k46 : Int32 → Int32 → Int32 → Int32 → j_M → Option (Int32 × j_M))  (hk46 : ∀ (l1 : Int32) (l2 : Int32) (l3 : Int32) (l4 : Int32) (M : j_M), J (ρ := Int32 × j_M) yX12_go cX12_go 6 (some .int) 9 210 j_ei 46 [(0, .inr (17, 0, 200)), (1, .inl (l1)), (2, .inl (l2)), (3, .inl (l3)), (4, .inl (l4))] [] M (k46 l1 l2 l3 l4 M)) (l1 : Int32) (l2 : Int32) (l3 : Int32) (l4 : Int32) (M : j_M) : J (ρ := Int32 × j_M) yX12_go cX12_go 6 (some .int) 9 210 j_ei 144 [(0, .inr (17, 0, 200)), (1, .inl (l1)), (2, .inl (l2)), (3, .inl (l3)), (4, .inl (l4))] [] M (xX12_go_144 k46 l1 l2 l3 l4 M) := by
  unfold xX12_go_144
  refine K_aload_n (q := 145) 0 dX12_go_144 rfl rfl rfl ?_
  refine K_cvv (q := 148) [] dX12_go_145 cb_X12_ticksOnce cvRX12_191 rc_7 (show (17 : Nat) ≠ 0 by decide) rfl (Nat.le_of_ble_eq_true rfl) ⟨by decide, by decide⟩ (Nat.le_of_ble_eq_true rfl) rfl (tX12_ticksOnce M) rfl (fun M1 => ?_)
  refine K_iinc (q := 151) (v := l4 + (nI 1)) (ll' := [(4, .inl (l4 + (nI 1))), (0, .inr (17, 0, 200)), (1, .inl (l1)), (2, .inl (l2)), (3, .inl (l3))]) 4 dX12_go_148 rfl rfl (by decide) rfl rfl ?_
  refine J_goto (tgt := 46) dX12_go_151 rfl ?_
  exact J_sub [1, 2, 3, 4, 0] (hk46 l1 l2 l3 (l4 + (nI 1)) M1) rfl
def xX12_go_134 (k46 : Int32 → Int32 → Int32 → Int32 → j_M → Option (Int32 × j_M)) (k81 : Int32 → Int32 → Int32 → Int32 → Int32 → j_M → Option (Int32 × j_M))  (l1 : Int32) (l2 : Int32) (l3 : Int32) (l4 : Int32) (l5 : Int32) (s0 : Int32) (M : j_M) : Option (Int32 × j_M) := obi (xX12_delivers s0 M) fun v2 M1 => k81 l1 l2 l3 l4 (l5 + (nI 1)) M1
set_option maxRecDepth 20000 in
set_option maxHeartbeats 2000000 in
theorem tX12_go_134 (k46 : Int32 → Int32 → Int32 → Int32 → j_M → Option (Int32 × j_M)) (k81 : Int32 → Int32 → Int32 → Int32 → Int32 → j_M → Option (Int32 × j_M))  (hk46 : ∀ (l1 : Int32) (l2 : Int32) (l3 : Int32) (l4 : Int32) (M : j_M), J (ρ := Int32 × j_M) yX12_go cX12_go 6 (some .int) 9 210 j_ei 46 [(0, .inr (17, 0, 200)), (1, .inl (l1)), (2, .inl (l2)), (3, .inl (l3)), (4, .inl (l4))] [] M (k46 l1 l2 l3 l4 M)) (hk81 : ∀ (l1 : Int32) (l2 : Int32) (l3 : Int32) (l4 : Int32) (l5 : Int32) (M : j_M), J (ρ := Int32 × j_M) yX12_go cX12_go 6 (some .int) 9 210 j_ei 81 [(0, .inr (17, 0, 200)), (1, .inl (l1)), (2, .inl (l2)), (3, .inl (l3)), (4, .inl (l4)), (5, .inl (l5))] [] M (k81 l1 l2 l3 l4 l5 M)) (l1 : Int32) (l2 : Int32) (l3 : Int32) (l4 : Int32) (l5 : Int32) (s0 : Int32) (M : j_M) : J (ρ := Int32 × j_M) yX12_go cX12_go 6 (some .int) 9 210 j_ei 134 [(0, .inr (17, 0, 200)), (1, .inl (l1)), (2, .inl (l2)), (3, .inl (l3)), (4, .inl (l4)), (5, .inl (l5))] [.inl (s0), .inr (17, 0, 200)] M (xX12_go_134 k46 k81 l1 l2 l3 l4 l5 s0 M) := by
  unfold xX12_go_134
  refine K_cvi (q := 137) [.inl (s0)] dX12_go_134 cb_X12_delivers cvRX12_178 rc_7 (show (17 : Nat) ≠ 0 by decide) rfl (Nat.le_of_ble_eq_true rfl) ⟨by decide, by decide⟩ (Nat.le_of_ble_eq_true rfl) rfl (tX12_delivers s0 M) rfl (fun v2 M1 => ?_)
  refine K_pop (q := 138) dX12_go_137 rfl ?_
  refine K_iinc (q := 141) (v := l5 + (nI 1)) (ll' := [(5, .inl (l5 + (nI 1))), (0, .inr (17, 0, 200)), (1, .inl (l1)), (2, .inl (l2)), (3, .inl (l3)), (4, .inl (l4))]) 5 dX12_go_138 rfl rfl (by decide) rfl rfl ?_
  refine J_goto (tgt := 81) dX12_go_141 rfl ?_
  exact J_sub [1, 2, 3, 4, 5, 0] (hk81 l1 l2 l3 l4 (l5 + (nI 1)) M1) rfl
def xX12_go_81 (k46 : Int32 → Int32 → Int32 → Int32 → j_M → Option (Int32 × j_M))  : Nat → Int32 → Int32 → Int32 → Int32 → Int32 → j_M → Option (Int32 × j_M)
  | 0, _, _, _, _, _, _ => none
  | n + 1, l1, l2, l3, l4, l5, M => (if (nI 3) ≤ l5 then xX12_go_144 k46 l1 l2 l3 l4 M else gd (nI 7) 7460 (oli (M 201 (ix (nI 7))) fun v1 => (if v1 ≤ (0 : Int32) then xX12_go_144 k46 l1 l2 l3 l4 M else (if l2 = (0 : Int32) then xX12_go_134 k46 (xX12_go_81 k46 n) l1 l2 l3 l4 l5 (nI 0) M else (if l2 = (nI 1) then gd (nI 7) 7460 (oli (M 201 (ix (nI 7))) fun v5 => xX12_go_134 k46 (xX12_go_81 k46 n) l1 l2 l3 l4 l5 (v5 - (nI 1)) M) else gd (nI 7) 7460 (oli (M 201 (ix (nI 7))) fun v2 => obi (xX12_draw v2 M) fun v4 M3 => xX12_go_134 k46 (xX12_go_81 k46 n) l1 l2 l3 l4 l5 v4 M3))))))
set_option maxRecDepth 20000 in
set_option maxHeartbeats 2000000 in
theorem tX12_go_81 (k46 : Int32 → Int32 → Int32 → Int32 → j_M → Option (Int32 × j_M))  (hk46 : ∀ (l1 : Int32) (l2 : Int32) (l3 : Int32) (l4 : Int32) (M : j_M), J (ρ := Int32 × j_M) yX12_go cX12_go 6 (some .int) 9 210 j_ei 46 [(0, .inr (17, 0, 200)), (1, .inl (l1)), (2, .inl (l2)), (3, .inl (l3)), (4, .inl (l4))] [] M (k46 l1 l2 l3 l4 M)) : ∀ (n : Nat) (l1 : Int32) (l2 : Int32) (l3 : Int32) (l4 : Int32) (l5 : Int32) (M : j_M), J (ρ := Int32 × j_M) yX12_go cX12_go 6 (some .int) 9 210 j_ei 81 [(0, .inr (17, 0, 200)), (1, .inl (l1)), (2, .inl (l2)), (3, .inl (l3)), (4, .inl (l4)), (5, .inl (l5))] [] M (xX12_go_81 k46 n l1 l2 l3 l4 l5 M) := by
  intro n
  induction n with
  | zero => intros; exact J_none
  | succ n ih =>
    intro l1 l2 l3 l4 l5 M
    rw [xX12_go_81.eq_2]
    refine K_iload (q := 83) 5 dX12_go_81 rfl rfl ?_
    refine K_iconst (q := 84) (v := nI 3) dX12_go_83 rfl rfl ?_
    refine K_icmp_ge (q := 87) (tgt := 144) dX12_go_84 rfl ?_ rfl ?_
    · exact J_sub [0, 1, 2, 3, 4] (tX12_go_144 k46 hk46 l1 l2 l3 l4 M) rfl
    · refine K_aload_n (q := 88) 0 dX12_go_87 rfl rfl rfl ?_
      refine K_getR (q := 91) (ci := 7) (a2 := 201) 0 dX12_go_88 fRX12_9 rfl rfl (by decide) rfl rfl ?_
      refine K_bipush (q := 93) (v := nI 7) dX12_go_91 rfl rfl ?_
      refine K_iald (q := 94) dX12_go_93 rfl (fun v1 => ?_)
      refine K_if_le (q := 97) (tgt := 144) dX12_go_94 rfl ?_ rfl ?_
      · exact J_sub [0, 1, 2, 3, 4] (tX12_go_144 k46 hk46 l1 l2 l3 l4 M) rfl
      · refine K_aload_n (q := 98) 0 dX12_go_97 rfl rfl rfl ?_
        refine K_iload_n (q := 99) 2 dX12_go_98 rfl rfl rfl ?_
        refine K_if_ne (q := 102) (tgt := 106) dX12_go_99 rfl ?_ rfl ?_
        · refine K_iload_n (q := 107) 2 dX12_go_106 rfl rfl rfl ?_
          refine K_iconst (q := 108) (v := nI 1) dX12_go_107 rfl rfl ?_
          refine K_icmp_ne (q := 111) (tgt := 123) dX12_go_108 rfl ?_ rfl ?_
          · refine K_aload_n (q := 124) 0 dX12_go_123 rfl rfl rfl ?_
            refine K_aload_n (q := 125) 0 dX12_go_124 rfl rfl rfl ?_
            refine K_getR (q := 128) (ci := 7) (a2 := 201) 0 dX12_go_125 fRX12_9 rfl rfl (by decide) rfl rfl ?_
            refine K_bipush (q := 130) (v := nI 7) dX12_go_128 rfl rfl ?_
            refine K_iald (q := 131) dX12_go_130 rfl (fun v2 => ?_)
            refine K_cvi (q := 134) [.inl (v2)] dX12_go_131 cb_X12_draw cvRX12_355 rc_7 (show (17 : Nat) ≠ 0 by decide) rfl (Nat.le_of_ble_eq_true rfl) ⟨by decide, by decide⟩ (Nat.le_of_ble_eq_true rfl) rfl (tX12_draw v2 M) rfl (fun v4 M3 => ?_)
            exact J_sub [0, 1, 2, 3, 4, 5] (tX12_go_134 k46 (xX12_go_81 k46 n) hk46 ih l1 l2 l3 l4 l5 v4 M3) rfl
          · refine K_aload_n (q := 112) 0 dX12_go_111 rfl rfl rfl ?_
            refine K_getR (q := 115) (ci := 7) (a2 := 201) 0 dX12_go_112 fRX12_9 rfl rfl (by decide) rfl rfl ?_
            refine K_bipush (q := 117) (v := nI 7) dX12_go_115 rfl rfl ?_
            refine K_iald (q := 118) dX12_go_117 rfl (fun v5 => ?_)
            refine K_iconst (q := 119) (v := nI 1) dX12_go_118 rfl rfl ?_
            refine K_isub (q := 120) dX12_go_119 rfl ?_
            refine J_goto (tgt := 134) dX12_go_120 rfl ?_
            exact J_sub [0, 1, 2, 3, 4, 5] (tX12_go_134 k46 (xX12_go_81 k46 n) hk46 ih l1 l2 l3 l4 l5 (v5 - (nI 1)) M) rfl
        · refine K_iconst (q := 103) (v := nI 0) dX12_go_102 rfl rfl ?_
          refine J_goto (tgt := 134) dX12_go_103 rfl ?_
          exact J_sub [0, 1, 2, 3, 4, 5] (tX12_go_134 k46 (xX12_go_81 k46 n) hk46 ih l1 l2 l3 l4 l5 (nI 0) M) rfl
def xX12_go_55 (k46 : Int32 → Int32 → Int32 → Int32 → j_M → Option (Int32 × j_M))  : Nat → Int32 → Int32 → Int32 → Int32 → Int32 → j_M → Option (Int32 × j_M)
  | 0, _, _, _, _, _, _ => none
  | n + 1, l1, l2, l3, l4, l5, M => gd (nI 0) 7460 (oli (M 201 (ix (nI 0))) fun v1 => (if v1 ≤ l5 then xX12_go_81 k46 fu l1 l2 l3 l4 (nI 0) M else obv (xX12_actsOf l5 M) fun M2 => xX12_go_55 k46 n l1 l2 l3 l4 (l5 + (nI 1)) M2))
set_option maxRecDepth 20000 in
set_option maxHeartbeats 2000000 in
theorem tX12_go_55 (k46 : Int32 → Int32 → Int32 → Int32 → j_M → Option (Int32 × j_M))  (hk46 : ∀ (l1 : Int32) (l2 : Int32) (l3 : Int32) (l4 : Int32) (M : j_M), J (ρ := Int32 × j_M) yX12_go cX12_go 6 (some .int) 9 210 j_ei 46 [(0, .inr (17, 0, 200)), (1, .inl (l1)), (2, .inl (l2)), (3, .inl (l3)), (4, .inl (l4))] [] M (k46 l1 l2 l3 l4 M)) : ∀ (n : Nat) (l1 : Int32) (l2 : Int32) (l3 : Int32) (l4 : Int32) (l5 : Int32) (M : j_M), J (ρ := Int32 × j_M) yX12_go cX12_go 6 (some .int) 9 210 j_ei 55 [(0, .inr (17, 0, 200)), (1, .inl (l1)), (2, .inl (l2)), (3, .inl (l3)), (4, .inl (l4)), (5, .inl (l5))] [] M (xX12_go_55 k46 n l1 l2 l3 l4 l5 M) := by
  intro n
  induction n with
  | zero => intros; exact J_none
  | succ n ih =>
    intro l1 l2 l3 l4 l5 M
    rw [xX12_go_55.eq_2]
    refine K_iload (q := 57) 5 dX12_go_55 rfl rfl ?_
    refine K_aload_n (q := 58) 0 dX12_go_57 rfl rfl rfl ?_
    refine K_getR (q := 61) (ci := 7) (a2 := 201) 0 dX12_go_58 fRX12_9 rfl rfl (by decide) rfl rfl ?_
    refine K_iconst (q := 62) (v := nI 0) dX12_go_61 rfl rfl ?_
    refine K_iald (q := 63) dX12_go_62 rfl (fun v1 => ?_)
    refine K_icmp_ge (q := 66) (tgt := 78) dX12_go_63 rfl ?_ rfl ?_
    · refine K_iconst (q := 79) (v := nI 0) dX12_go_78 rfl rfl ?_
      refine K_istore (q := 81) (ll' := [(5, .inl ((nI 0))), (0, .inr (17, 0, 200)), (1, .inl (l1)), (2, .inl (l2)), (3, .inl (l3)), (4, .inl (l4))]) dX12_go_79 (by decide) rfl rfl ?_
      exact J_sub [1, 2, 3, 4, 5, 0] (tX12_go_81 k46 hk46 fu l1 l2 l3 l4 (nI 0) M) rfl
    · refine K_aload_n (q := 67) 0 dX12_go_66 rfl rfl rfl ?_
      refine K_iload (q := 69) 5 dX12_go_67 rfl rfl ?_
      refine K_cvv (q := 72) [.inl (l5)] dX12_go_69 cb_X12_actsOf cvRX12_352 rc_7 (show (17 : Nat) ≠ 0 by decide) rfl (Nat.le_of_ble_eq_true rfl) ⟨by decide, by decide⟩ (Nat.le_of_ble_eq_true rfl) rfl (tX12_actsOf l5 M) rfl (fun M2 => ?_)
      refine K_iinc (q := 75) (v := l5 + (nI 1)) (ll' := [(5, .inl (l5 + (nI 1))), (0, .inr (17, 0, 200)), (1, .inl (l1)), (2, .inl (l2)), (3, .inl (l3)), (4, .inl (l4))]) 5 dX12_go_72 rfl rfl (by decide) rfl rfl ?_
      refine J_goto (tgt := 55) dX12_go_75 rfl ?_
      exact J_sub [1, 2, 3, 4, 5, 0] (ih l1 l2 l3 l4 (l5 + (nI 1)) M2) rfl
def xX12_go_46   : Nat → Int32 → Int32 → Int32 → Int32 → j_M → Option (Int32 × j_M)
  | 0, _, _, _, _, _ => none
  | n + 1, l1, l2, l3, l4, M => (if l1 ≤ l4 then gd (nI 10) 7460 (oli (M 201 (ix (nI 10))) fun v1 => some (v1 - l3, M)) else xX12_go_55 (xX12_go_46  n) fu l1 l2 l3 l4 (nI 0) M)
set_option maxRecDepth 20000 in
set_option maxHeartbeats 2000000 in
theorem tX12_go_46    : ∀ (n : Nat) (l1 : Int32) (l2 : Int32) (l3 : Int32) (l4 : Int32) (M : j_M), J (ρ := Int32 × j_M) yX12_go cX12_go 6 (some .int) 9 210 j_ei 46 [(0, .inr (17, 0, 200)), (1, .inl (l1)), (2, .inl (l2)), (3, .inl (l3)), (4, .inl (l4))] [] M (xX12_go_46  n l1 l2 l3 l4 M) := by
  intro n
  induction n with
  | zero => intros; exact J_none
  | succ n ih =>
    intro l1 l2 l3 l4 M
    rw [xX12_go_46.eq_2]
    refine K_iload (q := 48) 4 dX12_go_46 rfl rfl ?_
    refine K_iload_n (q := 49) 1 dX12_go_48 rfl rfl rfl ?_
    refine K_icmp_ge (q := 52) (tgt := 154) dX12_go_49 rfl ?_ rfl ?_
    · refine K_aload_n (q := 155) 0 dX12_go_154 rfl rfl rfl ?_
      refine K_getR (q := 158) (ci := 7) (a2 := 201) 0 dX12_go_155 fRX12_9 rfl rfl (by decide) rfl rfl ?_
      refine K_bipush (q := 160) (v := nI 10) dX12_go_158 rfl rfl ?_
      refine K_iald (q := 161) dX12_go_160 rfl (fun v1 => ?_)
      refine K_iload_n (q := 162) 3 dX12_go_161 rfl rfl rfl ?_
      refine K_isub (q := 163) dX12_go_162 rfl ?_
      exact J_iret dX12_go_163
    · refine K_iconst (q := 53) (v := nI 0) dX12_go_52 rfl rfl ?_
      refine K_istore (q := 55) (ll' := [(5, .inl ((nI 0))), (0, .inr (17, 0, 200)), (1, .inl (l1)), (2, .inl (l2)), (3, .inl (l3)), (4, .inl (l4))]) dX12_go_53 (by decide) rfl rfl ?_
      exact J_sub [1, 2, 3, 4, 5, 0] (tX12_go_55 (xX12_go_46  n) ih fu l1 l2 l3 l4 (nI 0) M) rfl
def xX12_go  (l1 : Int32) (l2 : Int32) (M : j_M) : Option (Int32 × j_M) := obi (xX12_isIn l1 (nI 1) (nI 60) M) fun v2 M1 => (if v2 = (0 : Int32) then some ((-1 : Int32), M1) else obi (xX12_isIn l2 (nI 0) (nI 2) M1) fun v4 M3 => (if v4 = (0 : Int32) then some ((-1 : Int32), M3) else gd (nI 5) 7460 (oli (M3 201 (ix (nI 5))) fun v5 => (if (v5 + l1) ≤ (nI 9999) then gd (nI 10) 7460 (oli (M3 201 (ix (nI 10))) fun v6 => xX12_go_46 fu l1 l2 v6 (nI 0) M3) else some ((-1 : Int32), M3)))))
set_option maxRecDepth 20000 in
set_option maxHeartbeats 2000000 in
theorem tX12_go  (l1 : Int32) (l2 : Int32) (M : j_M) : J (ρ := Int32 × j_M) yX12_go cX12_go 6 (some .int) 9 210 j_ei 0 [(0, .inr (17, 0, 200)), (1, .inl (l1)), (2, .inl (l2))] [] M (xX12_go  l1 l2 M) := by
  unfold xX12_go
  refine K_iload_n (q := 1) 1 dX12_go_0 rfl rfl rfl ?_
  refine K_iconst (q := 2) (v := nI 1) dX12_go_1 rfl rfl ?_
  refine K_bipush (q := 4) (v := nI 60) dX12_go_2 rfl rfl ?_
  refine K_csi (q := 7) [.inl (l1), .inl ((nI 1)), .inl ((nI 60))] dX12_go_4 cb_X12_isIn cvRX12_65 rfl (Nat.le_of_ble_eq_true rfl) ⟨by decide, by decide⟩ (Nat.le_of_ble_eq_true rfl) rfl (tX12_isIn l1 (nI 1) (nI 60) M) rfl (fun v2 M1 => ?_)
  refine K_if_eq (q := 10) (tgt := 33) dX12_go_7 rfl ?_ rfl ?_
  · refine K_iconst (q := 34) (v := -1) dX12_go_33 rfl rfl ?_
    exact J_iret dX12_go_34
  · refine K_iload_n (q := 11) 2 dX12_go_10 rfl rfl rfl ?_
    refine K_iconst (q := 12) (v := nI 0) dX12_go_11 rfl rfl ?_
    refine K_iconst (q := 13) (v := nI 2) dX12_go_12 rfl rfl ?_
    refine K_csi (q := 16) [.inl (l2), .inl ((nI 0)), .inl ((nI 2))] dX12_go_13 cb_X12_isIn cvRX12_65 rfl (Nat.le_of_ble_eq_true rfl) ⟨by decide, by decide⟩ (Nat.le_of_ble_eq_true rfl) rfl (tX12_isIn l2 (nI 0) (nI 2) M1) rfl (fun v4 M3 => ?_)
    refine K_if_eq (q := 19) (tgt := 33) dX12_go_16 rfl ?_ rfl ?_
    · refine K_iconst (q := 34) (v := -1) dX12_go_33 rfl rfl ?_
      exact J_iret dX12_go_34
    · refine K_aload_n (q := 20) 0 dX12_go_19 rfl rfl rfl ?_
      refine K_getR (q := 23) (ci := 7) (a2 := 201) 0 dX12_go_20 fRX12_9 rfl rfl (by decide) rfl rfl ?_
      refine K_iconst (q := 24) (v := nI 5) dX12_go_23 rfl rfl ?_
      refine K_iald (q := 25) dX12_go_24 rfl (fun v5 => ?_)
      refine K_iload_n (q := 26) 1 dX12_go_25 rfl rfl rfl ?_
      refine K_iadd (q := 27) dX12_go_26 rfl ?_
      refine K_sipush (q := 30) (v := nI 9999) dX12_go_27 rfl rfl ?_
      refine K_icmp_le (q := 33) (tgt := 35) dX12_go_30 rfl ?_ rfl ?_
      · refine K_aload_n (q := 36) 0 dX12_go_35 rfl rfl rfl ?_
        refine K_getR (q := 39) (ci := 7) (a2 := 201) 0 dX12_go_36 fRX12_9 rfl rfl (by decide) rfl rfl ?_
        refine K_bipush (q := 41) (v := nI 10) dX12_go_39 rfl rfl ?_
        refine K_iald (q := 42) dX12_go_41 rfl (fun v6 => ?_)
        refine K_istore_n (q := 43) (ll' := [(3, .inl (v6)), (0, .inr (17, 0, 200)), (1, .inl (l1)), (2, .inl (l2))]) dX12_go_42 rfl (by decide) rfl rfl ?_
        refine K_iconst (q := 44) (v := nI 0) dX12_go_43 rfl rfl ?_
        refine K_istore (q := 46) (ll' := [(4, .inl ((nI 0))), (3, .inl (v6)), (0, .inr (17, 0, 200)), (1, .inl (l1)), (2, .inl (l2))]) dX12_go_44 (by decide) rfl rfl ?_
        exact J_sub [2, 3, 4, 1, 0] (tX12_go_46 fu l1 l2 v6 (nI 0) M3) rfl
      · refine K_iconst (q := 34) (v := -1) dX12_go_33 rfl rfl ?_
        exact J_iret dX12_go_34
theorem dX12_group_0 : decode cX12_group 0 = .ok (.aload_n 0, 1) := by decide +kernel
theorem dX12_group_1 : decode cX12_group 1 = .ok (.iload_n 1, 1) := by decide +kernel
theorem dX12_group_2 : decode cX12_group 2 = .ok (.invokevirtual 69, 3) := by decide +kernel
theorem dX12_group_5 : decode cX12_group 5 = .ok (.ifCond .eq 27, 3) := by decide +kernel
theorem dX12_group_8 : decode cX12_group 8 = .ok (.iload_n 2, 1) := by decide +kernel
theorem dX12_group_9 : decode cX12_group 9 = .ok (.invokestatic 140, 3) := by decide +kernel
theorem dX12_group_12 : decode cX12_group 12 = .ok (.ifCond .eq 20, 3) := by decide +kernel
theorem dX12_group_15 : decode cX12_group 15 = .ok (.aload_n 0, 1) := by decide +kernel
theorem dX12_group_16 : decode cX12_group 16 = .ok (.getfield 9, 3) := by decide +kernel
theorem dX12_group_19 : decode cX12_group 19 = .ok (.sipush 6766, 3) := by decide +kernel
theorem dX12_group_22 : decode cX12_group 22 = .ok (.iload_n 1, 1) := by decide +kernel
theorem dX12_group_23 : decode cX12_group 23 = .ok (.iload_n 2, 1) := by decide +kernel
theorem dX12_group_24 : decode cX12_group 24 = .ok (.invokestatic 61, 3) := by decide +kernel
theorem dX12_group_27 : decode cX12_group 27 = .ok (.iadd, 1) := by decide +kernel
theorem dX12_group_28 : decode cX12_group 28 = .ok (.iaload, 1) := by decide +kernel
theorem dX12_group_29 : decode cX12_group 29 = .ok (.goto 4, 3) := by decide +kernel
theorem dX12_group_32 : decode cX12_group 32 = .ok (.iconst (-1), 1) := by decide +kernel
theorem dX12_group_33 : decode cX12_group 33 = .ok (.ireturn, 1) := by decide +kernel
def xX12_group  (l1 : Int32) (l2 : Int32) (M : j_M) : Option (Int32 × j_M) := obi (xX12_isCpu l1 M) fun v2 M1 => (if v2 = (0 : Int32) then some ((-1 : Int32), M1) else obi (xX12_isLine l2 M1) fun v4 M3 => (if v4 = (0 : Int32) then some ((-1 : Int32), M3) else obi (xX12_place l1 l2 M3) fun v6 M5 => gd ((nI 6766) + v6) 7460 (oli (M5 201 (ix ((nI 6766) + v6))) fun v7 => some (v7, M5))))
set_option maxRecDepth 20000 in
set_option maxHeartbeats 2000000 in
theorem tX12_group  (l1 : Int32) (l2 : Int32) (M : j_M) : J (ρ := Int32 × j_M) yX12_group cX12_group 3 (some .int) 2 43 j_ei 0 [(0, .inr (17, 0, 200)), (1, .inl (l1)), (2, .inl (l2))] [] M (xX12_group  l1 l2 M) := by
  unfold xX12_group
  refine K_aload_n (q := 1) 0 dX12_group_0 rfl rfl rfl ?_
  refine K_iload_n (q := 2) 1 dX12_group_1 rfl rfl rfl ?_
  refine K_cvi (q := 5) [.inl (l1)] dX12_group_2 cb_X12_isCpu cvRX12_69 rc_7 (show (17 : Nat) ≠ 0 by decide) rfl (Nat.le_of_ble_eq_true rfl) ⟨by decide, by decide⟩ (Nat.le_of_ble_eq_true rfl) rfl (tX12_isCpu l1 M) rfl (fun v2 M1 => ?_)
  refine K_if_eq (q := 8) (tgt := 32) dX12_group_5 rfl ?_ rfl ?_
  · refine K_iconst (q := 33) (v := -1) dX12_group_32 rfl rfl ?_
    exact J_iret dX12_group_33
  · refine K_iload_n (q := 9) 2 dX12_group_8 rfl rfl rfl ?_
    refine K_csi (q := 12) [.inl (l2)] dX12_group_9 cb_X12_isLine cvRX12_140 rfl (Nat.le_of_ble_eq_true rfl) ⟨by decide, by decide⟩ (Nat.le_of_ble_eq_true rfl) rfl (tX12_isLine l2 M1) rfl (fun v4 M3 => ?_)
    refine K_if_eq (q := 15) (tgt := 32) dX12_group_12 rfl ?_ rfl ?_
    · refine K_iconst (q := 33) (v := -1) dX12_group_32 rfl rfl ?_
      exact J_iret dX12_group_33
    · refine K_aload_n (q := 16) 0 dX12_group_15 rfl rfl rfl ?_
      refine K_getR (q := 19) (ci := 7) (a2 := 201) 0 dX12_group_16 fRX12_9 rfl rfl (by decide) rfl rfl ?_
      refine K_sipush (q := 22) (v := nI 6766) dX12_group_19 rfl rfl ?_
      refine K_iload_n (q := 23) 1 dX12_group_22 rfl rfl rfl ?_
      refine K_iload_n (q := 24) 2 dX12_group_23 rfl rfl rfl ?_
      refine K_csi (q := 27) [.inl (l1), .inl (l2)] dX12_group_24 cb_X12_place cvRX12_61 rfl (Nat.le_of_ble_eq_true rfl) ⟨by decide, by decide⟩ (Nat.le_of_ble_eq_true rfl) rfl (tX12_place l1 l2 M3) rfl (fun v6 M5 => ?_)
      refine K_iadd (q := 28) dX12_group_27 rfl ?_
      refine K_iald (q := 29) dX12_group_28 rfl (fun v7 => ?_)
      refine J_goto (tgt := 33) dX12_group_29 rfl ?_
      exact J_iret dX12_group_33
theorem dX12_image_0 : decode cX12_image 0 = .ok (.iload_n 1, 1) := by decide +kernel
theorem dX12_image_1 : decode cX12_image 1 = .ok (.ifCond .ne 12, 3) := by decide +kernel
theorem dX12_image_4 : decode cX12_image 4 = .ok (.aload_n 0, 1) := by decide +kernel
theorem dX12_image_5 : decode cX12_image 5 = .ok (.getfield 431, 3) := by decide +kernel
theorem dX12_image_8 : decode cX12_image 8 = .ok (.ifCond .ne 5, 3) := by decide +kernel
theorem dX12_image_11 : decode cX12_image 11 = .ok (.iconst 0, 1) := by decide +kernel
theorem dX12_image_12 : decode cX12_image 12 = .ok (.ireturn, 1) := by decide +kernel
theorem dX12_image_13 : decode cX12_image 13 = .ok (.iconst 0, 1) := by decide +kernel
theorem dX12_image_14 : decode cX12_image 14 = .ok (.istore_n 2, 1) := by decide +kernel
theorem dX12_image_15 : decode cX12_image 15 = .ok (.iload_n 2, 1) := by decide +kernel
theorem dX12_image_16 : decode cX12_image 16 = .ok (.aload_n 0, 1) := by decide +kernel
theorem dX12_image_17 : decode cX12_image 17 = .ok (.getfield 9, 3) := by decide +kernel
theorem dX12_image_20 : decode cX12_image 20 = .ok (.arraylength, 1) := by decide +kernel
theorem dX12_image_21 : decode cX12_image 21 = .ok (.if_icmp .ge 40, 3) := by decide +kernel
theorem dX12_image_24 : decode cX12_image 24 = .ok (.iload_n 1, 1) := by decide +kernel
theorem dX12_image_25 : decode cX12_image 25 = .ok (.ifCond .eq 18, 3) := by decide +kernel
theorem dX12_image_28 : decode cX12_image 28 = .ok (.aload_n 0, 1) := by decide +kernel
theorem dX12_image_29 : decode cX12_image 29 = .ok (.getfield 13, 3) := by decide +kernel
theorem dX12_image_32 : decode cX12_image 32 = .ok (.iload_n 2, 1) := by decide +kernel
theorem dX12_image_33 : decode cX12_image 33 = .ok (.aload_n 0, 1) := by decide +kernel
theorem dX12_image_34 : decode cX12_image 34 = .ok (.getfield 9, 3) := by decide +kernel
theorem dX12_image_37 : decode cX12_image 37 = .ok (.iload_n 2, 1) := by decide +kernel
theorem dX12_image_38 : decode cX12_image 38 = .ok (.iaload, 1) := by decide +kernel
theorem dX12_image_39 : decode cX12_image 39 = .ok (.iastore, 1) := by decide +kernel
theorem dX12_image_40 : decode cX12_image 40 = .ok (.goto 15, 3) := by decide +kernel
theorem dX12_image_43 : decode cX12_image 43 = .ok (.aload_n 0, 1) := by decide +kernel
theorem dX12_image_44 : decode cX12_image 44 = .ok (.getfield 9, 3) := by decide +kernel
theorem dX12_image_47 : decode cX12_image 47 = .ok (.iload_n 2, 1) := by decide +kernel
theorem dX12_image_48 : decode cX12_image 48 = .ok (.aload_n 0, 1) := by decide +kernel
theorem dX12_image_49 : decode cX12_image 49 = .ok (.getfield 13, 3) := by decide +kernel
theorem dX12_image_52 : decode cX12_image 52 = .ok (.iload_n 2, 1) := by decide +kernel
theorem dX12_image_53 : decode cX12_image 53 = .ok (.iaload, 1) := by decide +kernel
theorem dX12_image_54 : decode cX12_image 54 = .ok (.iastore, 1) := by decide +kernel
theorem dX12_image_55 : decode cX12_image 55 = .ok (.iinc 2 1, 3) := by decide +kernel
theorem dX12_image_58 : decode cX12_image 58 = .ok (.goto (-43), 3) := by decide +kernel
theorem dX12_image_61 : decode cX12_image 61 = .ok (.aload_n 0, 1) := by decide +kernel
theorem dX12_image_62 : decode cX12_image 62 = .ok (.iconst 1, 1) := by decide +kernel
theorem dX12_image_63 : decode cX12_image 63 = .ok (.putfield 431, 3) := by decide +kernel
theorem dX12_image_66 : decode cX12_image 66 = .ok (.iconst 1, 1) := by decide +kernel
theorem dX12_image_67 : decode cX12_image 67 = .ok (.ireturn, 1) := by decide +kernel
def xX12_image_15   : Nat → Int32 → Int32 → j_M → Option (Int32 × j_M)
  | 0, _, _, _ => none
  | n + 1, l1, l2, M => (if (nI 7460) ≤ l2 then gz (nI 1) (oml (mw M 200 3 (nI 1)) fun M1 => some ((nI 1), M1)) else (if l1 = (0 : Int32) then gd l2 7460 (oli (M 202 (ix l2)) fun v2 => gd l2 7460 (oml (mw M 201 (ix l2) v2) fun M3 => xX12_image_15  n l1 (l2 + (nI 1)) M3)) else gd l2 7460 (oli (M 201 (ix l2)) fun v4 => gd l2 7460 (oml (mw M 202 (ix l2) v4) fun M5 => xX12_image_15  n l1 (l2 + (nI 1)) M5))))
set_option maxRecDepth 20000 in
set_option maxHeartbeats 2000000 in
theorem tX12_image_15    : ∀ (n : Nat) (l1 : Int32) (l2 : Int32) (M : j_M), J (ρ := Int32 × j_M) yX12_image cX12_image 3 (some .boolean) 0 0 j_ei 15 [(0, .inr (17, 0, 200)), (1, .inl (l1)), (2, .inl (l2))] [] M (xX12_image_15  n l1 l2 M) := by
  intro n
  induction n with
  | zero => intros; exact J_none
  | succ n ih =>
    intro l1 l2 M
    rw [xX12_image_15.eq_2]
    refine K_iload_n (q := 16) 2 dX12_image_15 rfl rfl rfl ?_
    refine K_aload_n (q := 17) 0 dX12_image_16 rfl rfl rfl ?_
    refine K_getR (q := 20) (ci := 7) (a2 := 201) 0 dX12_image_17 fRX12_9 rfl rfl (by decide) rfl rfl ?_
    refine K_alen (q := 21) (v := (nI 7460)) dX12_image_20 rfl rfl ?_
    refine K_icmp_ge (q := 24) (tgt := 61) dX12_image_21 rfl ?_ rfl ?_
    · refine K_aload_n (q := 62) 0 dX12_image_61 rfl rfl rfl ?_
      refine K_iconst (q := 63) (v := nI 1) dX12_image_62 rfl rfl ?_
      refine K_putZ (q := 66) (ci := 7) 3 dX12_image_63 fRX12_431 fp_7_3 rfl rfl (by decide) rfl (fun M1 => ?_)
      refine K_iconst (q := 67) (v := nI 1) dX12_image_66 rfl rfl ?_
      exact J_zret dX12_image_67 (by decide)
    · refine K_iload_n (q := 25) 1 dX12_image_24 rfl rfl rfl ?_
      refine K_if_eq (q := 28) (tgt := 43) dX12_image_25 rfl ?_ rfl ?_
      · refine K_aload_n (q := 44) 0 dX12_image_43 rfl rfl rfl ?_
        refine K_getR (q := 47) (ci := 7) (a2 := 201) 0 dX12_image_44 fRX12_9 rfl rfl (by decide) rfl rfl ?_
        refine K_iload_n (q := 48) 2 dX12_image_47 rfl rfl rfl ?_
        refine K_aload_n (q := 49) 0 dX12_image_48 rfl rfl rfl ?_
        refine K_getR (q := 52) (ci := 7) (a2 := 202) 1 dX12_image_49 fRX12_13 rfl rfl (by decide) rfl rfl ?_
        refine K_iload_n (q := 53) 2 dX12_image_52 rfl rfl rfl ?_
        refine K_iald (q := 54) dX12_image_53 rfl (fun v2 => ?_)
        refine K_iast (q := 55) dX12_image_54 rfl (fun M3 => ?_)
        refine K_iinc (q := 58) (v := l2 + (nI 1)) (ll' := [(2, .inl (l2 + (nI 1))), (0, .inr (17, 0, 200)), (1, .inl (l1))]) 2 dX12_image_55 rfl rfl (by decide) rfl rfl ?_
        refine J_goto (tgt := 15) dX12_image_58 rfl ?_
        exact J_sub [1, 2, 0] (ih l1 (l2 + (nI 1)) M3) rfl
      · refine K_aload_n (q := 29) 0 dX12_image_28 rfl rfl rfl ?_
        refine K_getR (q := 32) (ci := 7) (a2 := 202) 1 dX12_image_29 fRX12_13 rfl rfl (by decide) rfl rfl ?_
        refine K_iload_n (q := 33) 2 dX12_image_32 rfl rfl rfl ?_
        refine K_aload_n (q := 34) 0 dX12_image_33 rfl rfl rfl ?_
        refine K_getR (q := 37) (ci := 7) (a2 := 201) 0 dX12_image_34 fRX12_9 rfl rfl (by decide) rfl rfl ?_
        refine K_iload_n (q := 38) 2 dX12_image_37 rfl rfl rfl ?_
        refine K_iald (q := 39) dX12_image_38 rfl (fun v4 => ?_)
        refine K_iast (q := 40) dX12_image_39 rfl (fun M5 => ?_)
        refine J_goto (tgt := 55) dX12_image_40 rfl ?_
        refine K_iinc (q := 58) (v := l2 + (nI 1)) (ll' := [(2, .inl (l2 + (nI 1))), (0, .inr (17, 0, 200)), (1, .inl (l1))]) 2 dX12_image_55 rfl rfl (by decide) rfl rfl ?_
        refine J_goto (tgt := 15) dX12_image_58 rfl ?_
        exact J_sub [1, 2, 0] (ih l1 (l2 + (nI 1)) M5) rfl
def xX12_image_13   (l1 : Int32) (M : j_M) : Option (Int32 × j_M) := xX12_image_15 fu l1 (nI 0) M
set_option maxRecDepth 20000 in
set_option maxHeartbeats 2000000 in
theorem tX12_image_13    (l1 : Int32) (M : j_M) : J (ρ := Int32 × j_M) yX12_image cX12_image 3 (some .boolean) 0 0 j_ei 13 [(0, .inr (17, 0, 200)), (1, .inl (l1))] [] M (xX12_image_13  l1 M) := by
  unfold xX12_image_13
  refine K_iconst (q := 14) (v := nI 0) dX12_image_13 rfl rfl ?_
  refine K_istore_n (q := 15) (ll' := [(2, .inl ((nI 0))), (0, .inr (17, 0, 200)), (1, .inl (l1))]) dX12_image_14 rfl (by decide) rfl rfl ?_
  exact J_sub [1, 2, 0] (tX12_image_15 fu l1 (nI 0) M) rfl
def xX12_image  (l1 : Int32) (M : j_M) : Option (Int32 × j_M) := (if l1 = (0 : Int32) then oli (M 200 3) fun v1 => (if v1 = (0 : Int32) then some ((nI 0), M) else xX12_image_13  l1 M) else xX12_image_13  l1 M)
set_option maxRecDepth 20000 in
set_option maxHeartbeats 2000000 in
theorem tX12_image  (l1 : Int32) (M : j_M) : J (ρ := Int32 × j_M) yX12_image cX12_image 3 (some .boolean) 0 0 j_ei 0 [(0, .inr (17, 0, 200)), (1, .inl (l1))] [] M (xX12_image  l1 M) := by
  unfold xX12_image
  refine K_iload_n (q := 1) 1 dX12_image_0 rfl rfl rfl ?_
  refine K_if_ne (q := 4) (tgt := 13) dX12_image_1 rfl ?_ rfl ?_
  · exact J_sub [0, 1] (tX12_image_13  l1 M) rfl
  · refine K_aload_n (q := 5) 0 dX12_image_4 rfl rfl rfl ?_
    refine K_getI (q := 8) (ci := 7) 3 dX12_image_5 fRX12_431 rfl rfl rfl (fun v1 => ?_)
    refine K_if_ne (q := 11) (tgt := 13) dX12_image_8 rfl ?_ rfl ?_
    · exact J_sub [0, 1] (tX12_image_13  l1 M) rfl
    · refine K_iconst (q := 12) (v := nI 0) dX12_image_11 rfl rfl ?_
      exact J_zret dX12_image_12 (by decide)
theorem dX12_missing_0 : decode cX12_missing 0 = .ok (.iconst 0, 1) := by decide +kernel
theorem dX12_missing_1 : decode cX12_missing 1 = .ok (.istore_n 1, 1) := by decide +kernel
theorem dX12_missing_2 : decode cX12_missing 2 = .ok (.iconst 0, 1) := by decide +kernel
theorem dX12_missing_3 : decode cX12_missing 3 = .ok (.istore_n 2, 1) := by decide +kernel
theorem dX12_missing_4 : decode cX12_missing 4 = .ok (.iload_n 2, 1) := by decide +kernel
theorem dX12_missing_5 : decode cX12_missing 5 = .ok (.aload_n 0, 1) := by decide +kernel
theorem dX12_missing_6 : decode cX12_missing 6 = .ok (.getfield 9, 3) := by decide +kernel
theorem dX12_missing_9 : decode cX12_missing 9 = .ok (.iconst 0, 1) := by decide +kernel
theorem dX12_missing_10 : decode cX12_missing 10 = .ok (.iaload, 1) := by decide +kernel
theorem dX12_missing_11 : decode cX12_missing 11 = .ok (.if_icmp .ge 31, 3) := by decide +kernel
theorem dX12_missing_14 : decode cX12_missing 14 = .ok (.iload_n 1, 1) := by decide +kernel
theorem dX12_missing_15 : decode cX12_missing 15 = .ok (.aload_n 0, 1) := by decide +kernel
theorem dX12_missing_16 : decode cX12_missing 16 = .ok (.getfield 9, 3) := by decide +kernel
theorem dX12_missing_19 : decode cX12_missing 19 = .ok (.sipush 292, 3) := by decide +kernel
theorem dX12_missing_22 : decode cX12_missing 22 = .ok (.iload_n 2, 1) := by decide +kernel
theorem dX12_missing_23 : decode cX12_missing 23 = .ok (.iadd, 1) := by decide +kernel
theorem dX12_missing_24 : decode cX12_missing 24 = .ok (.iaload, 1) := by decide +kernel
theorem dX12_missing_25 : decode cX12_missing 25 = .ok (.iconst (-1), 1) := by decide +kernel
theorem dX12_missing_26 : decode cX12_missing 26 = .ok (.if_icmp .ne 7, 3) := by decide +kernel
theorem dX12_missing_29 : decode cX12_missing 29 = .ok (.iconst 0, 1) := by decide +kernel
theorem dX12_missing_30 : decode cX12_missing 30 = .ok (.goto 4, 3) := by decide +kernel
theorem dX12_missing_33 : decode cX12_missing 33 = .ok (.iconst 1, 1) := by decide +kernel
theorem dX12_missing_34 : decode cX12_missing 34 = .ok (.iadd, 1) := by decide +kernel
theorem dX12_missing_35 : decode cX12_missing 35 = .ok (.istore_n 1, 1) := by decide +kernel
theorem dX12_missing_36 : decode cX12_missing 36 = .ok (.iinc 2 1, 3) := by decide +kernel
theorem dX12_missing_39 : decode cX12_missing 39 = .ok (.goto (-35), 3) := by decide +kernel
theorem dX12_missing_42 : decode cX12_missing 42 = .ok (.iload_n 1, 1) := by decide +kernel
theorem dX12_missing_43 : decode cX12_missing 43 = .ok (.ireturn, 1) := by decide +kernel
def xX12_missing_34 (k4 : Int32 → Int32 → j_M → Option (Int32 × j_M))  (l2 : Int32) (s1 : Int32) (s0 : Int32) (M : j_M) : Option (Int32 × j_M) := k4 (s1 + s0) (l2 + (nI 1)) M
set_option maxRecDepth 20000 in
set_option maxHeartbeats 2000000 in
theorem tX12_missing_34 (k4 : Int32 → Int32 → j_M → Option (Int32 × j_M))  (hk4 : ∀ (l1 : Int32) (l2 : Int32) (M : j_M), J (ρ := Int32 × j_M) yX12_missing cX12_missing 3 (some .int) 0 0 j_ei 4 [(0, .inr (17, 0, 200)), (1, .inl (l1)), (2, .inl (l2))] [] M (k4 l1 l2 M)) (l2 : Int32) (s1 : Int32) (s0 : Int32) (M : j_M) : J (ρ := Int32 × j_M) yX12_missing cX12_missing 3 (some .int) 0 0 j_ei 34 [(0, .inr (17, 0, 200)), (2, .inl (l2))] [.inl (s0), .inl (s1)] M (xX12_missing_34 k4 l2 s1 s0 M) := by
  unfold xX12_missing_34
  refine K_iadd (q := 35) dX12_missing_34 rfl ?_
  refine K_istore_n (q := 36) (ll' := [(1, .inl (s1 + s0)), (0, .inr (17, 0, 200)), (2, .inl (l2))]) dX12_missing_35 rfl (by decide) rfl rfl ?_
  refine K_iinc (q := 39) (v := l2 + (nI 1)) (ll' := [(2, .inl (l2 + (nI 1))), (1, .inl (s1 + s0)), (0, .inr (17, 0, 200))]) 2 dX12_missing_36 rfl rfl (by decide) rfl rfl ?_
  refine J_goto (tgt := 4) dX12_missing_39 rfl ?_
  exact J_sub [2, 1, 0] (hk4 (s1 + s0) (l2 + (nI 1)) M) rfl
def xX12_missing_4   : Nat → Int32 → Int32 → j_M → Option (Int32 × j_M)
  | 0, _, _, _ => none
  | n + 1, l1, l2, M => gd (nI 0) 7460 (oli (M 201 (ix (nI 0))) fun v1 => (if v1 ≤ l2 then some (l1, M) else gd ((nI 292) + l2) 7460 (oli (M 201 (ix ((nI 292) + l2))) fun v2 => (if v2 = (-1 : Int32) then xX12_missing_34 (xX12_missing_4  n) l2 l1 (nI 0) M else xX12_missing_34 (xX12_missing_4  n) l2 l1 (nI 1) M))))
set_option maxRecDepth 20000 in
set_option maxHeartbeats 2000000 in
theorem tX12_missing_4    : ∀ (n : Nat) (l1 : Int32) (l2 : Int32) (M : j_M), J (ρ := Int32 × j_M) yX12_missing cX12_missing 3 (some .int) 0 0 j_ei 4 [(0, .inr (17, 0, 200)), (1, .inl (l1)), (2, .inl (l2))] [] M (xX12_missing_4  n l1 l2 M) := by
  intro n
  induction n with
  | zero => intros; exact J_none
  | succ n ih =>
    intro l1 l2 M
    rw [xX12_missing_4.eq_2]
    refine K_iload_n (q := 5) 2 dX12_missing_4 rfl rfl rfl ?_
    refine K_aload_n (q := 6) 0 dX12_missing_5 rfl rfl rfl ?_
    refine K_getR (q := 9) (ci := 7) (a2 := 201) 0 dX12_missing_6 fRX12_9 rfl rfl (by decide) rfl rfl ?_
    refine K_iconst (q := 10) (v := nI 0) dX12_missing_9 rfl rfl ?_
    refine K_iald (q := 11) dX12_missing_10 rfl (fun v1 => ?_)
    refine K_icmp_ge (q := 14) (tgt := 42) dX12_missing_11 rfl ?_ rfl ?_
    · refine K_iload_n (q := 43) 1 dX12_missing_42 rfl rfl rfl ?_
      exact J_iret dX12_missing_43
    · refine K_iload_n (q := 15) 1 dX12_missing_14 rfl rfl rfl ?_
      refine K_aload_n (q := 16) 0 dX12_missing_15 rfl rfl rfl ?_
      refine K_getR (q := 19) (ci := 7) (a2 := 201) 0 dX12_missing_16 fRX12_9 rfl rfl (by decide) rfl rfl ?_
      refine K_sipush (q := 22) (v := nI 292) dX12_missing_19 rfl rfl ?_
      refine K_iload_n (q := 23) 2 dX12_missing_22 rfl rfl rfl ?_
      refine K_iadd (q := 24) dX12_missing_23 rfl ?_
      refine K_iald (q := 25) dX12_missing_24 rfl (fun v2 => ?_)
      refine K_iconst (q := 26) (v := -1) dX12_missing_25 rfl rfl ?_
      refine K_icmp_ne (q := 29) (tgt := 33) dX12_missing_26 rfl ?_ rfl ?_
      · refine K_iconst (q := 34) (v := nI 1) dX12_missing_33 rfl rfl ?_
        exact J_sub [0, 2] (tX12_missing_34 (xX12_missing_4  n) ih l2 l1 (nI 1) M) rfl
      · refine K_iconst (q := 30) (v := nI 0) dX12_missing_29 rfl rfl ?_
        refine J_goto (tgt := 34) dX12_missing_30 rfl ?_
        exact J_sub [0, 2] (tX12_missing_34 (xX12_missing_4  n) ih l2 l1 (nI 0) M) rfl
def xX12_missing   (M : j_M) : Option (Int32 × j_M) := xX12_missing_4 fu (nI 0) (nI 0) M
set_option maxRecDepth 20000 in
set_option maxHeartbeats 2000000 in
theorem tX12_missing   (M : j_M) : J (ρ := Int32 × j_M) yX12_missing cX12_missing 3 (some .int) 0 0 j_ei 0 [(0, .inr (17, 0, 200))] [] M (xX12_missing   M) := by
  unfold xX12_missing
  refine K_iconst (q := 1) (v := nI 0) dX12_missing_0 rfl rfl ?_
  refine K_istore_n (q := 2) (ll' := [(1, .inl ((nI 0))), (0, .inr (17, 0, 200))]) dX12_missing_1 rfl (by decide) rfl rfl ?_
  refine K_iconst (q := 3) (v := nI 0) dX12_missing_2 rfl rfl ?_
  refine K_istore_n (q := 4) (ll' := [(2, .inl ((nI 0))), (1, .inl ((nI 0))), (0, .inr (17, 0, 200))]) dX12_missing_3 rfl (by decide) rfl rfl ?_
  exact J_sub [2, 1, 0] (tX12_missing_4 fu (nI 0) (nI 0) M) rfl
theorem dX12_onTheWay_0 : decode cX12_onTheWay 0 = .ok (.iconst 0, 1) := by decide +kernel
theorem dX12_onTheWay_1 : decode cX12_onTheWay 1 = .ok (.istore_n 1, 1) := by decide +kernel
theorem dX12_onTheWay_2 : decode cX12_onTheWay 2 = .ok (.iconst 0, 1) := by decide +kernel
theorem dX12_onTheWay_3 : decode cX12_onTheWay 3 = .ok (.istore_n 2, 1) := by decide +kernel
theorem dX12_onTheWay_4 : decode cX12_onTheWay 4 = .ok (.iload_n 2, 1) := by decide +kernel
theorem dX12_onTheWay_5 : decode cX12_onTheWay 5 = .ok (.aload_n 0, 1) := by decide +kernel
theorem dX12_onTheWay_6 : decode cX12_onTheWay 6 = .ok (.getfield 9, 3) := by decide +kernel
theorem dX12_onTheWay_9 : decode cX12_onTheWay 9 = .ok (.bipush 7, 2) := by decide +kernel
theorem dX12_onTheWay_11 : decode cX12_onTheWay 11 = .ok (.iaload, 1) := by decide +kernel
theorem dX12_onTheWay_12 : decode cX12_onTheWay 12 = .ok (.if_icmp .ge 18, 3) := by decide +kernel
theorem dX12_onTheWay_15 : decode cX12_onTheWay 15 = .ok (.iload_n 1, 1) := by decide +kernel
theorem dX12_onTheWay_16 : decode cX12_onTheWay 16 = .ok (.aload_n 0, 1) := by decide +kernel
theorem dX12_onTheWay_17 : decode cX12_onTheWay 17 = .ok (.iload_n 2, 1) := by decide +kernel
theorem dX12_onTheWay_18 : decode cX12_onTheWay 18 = .ok (.iconst 4, 1) := by decide +kernel
theorem dX12_onTheWay_19 : decode cX12_onTheWay 19 = .ok (.invokevirtual 79, 3) := by decide +kernel
theorem dX12_onTheWay_22 : decode cX12_onTheWay 22 = .ok (.iadd, 1) := by decide +kernel
theorem dX12_onTheWay_23 : decode cX12_onTheWay 23 = .ok (.istore_n 1, 1) := by decide +kernel
theorem dX12_onTheWay_24 : decode cX12_onTheWay 24 = .ok (.iinc 2 1, 3) := by decide +kernel
theorem dX12_onTheWay_27 : decode cX12_onTheWay 27 = .ok (.goto (-23), 3) := by decide +kernel
theorem dX12_onTheWay_30 : decode cX12_onTheWay 30 = .ok (.iload_n 1, 1) := by decide +kernel
theorem dX12_onTheWay_31 : decode cX12_onTheWay 31 = .ok (.ireturn, 1) := by decide +kernel
def xX12_onTheWay_4   : Nat → Int32 → Int32 → j_M → Option (Int32 × j_M)
  | 0, _, _, _ => none
  | n + 1, l1, l2, M => gd (nI 7) 7460 (oli (M 201 (ix (nI 7))) fun v1 => (if v1 ≤ l2 then some (l1, M) else obi (xX12_of l2 (nI 4) M) fun v3 M2 => xX12_onTheWay_4  n (l1 + v3) (l2 + (nI 1)) M2))
set_option maxRecDepth 20000 in
set_option maxHeartbeats 2000000 in
theorem tX12_onTheWay_4    : ∀ (n : Nat) (l1 : Int32) (l2 : Int32) (M : j_M), J (ρ := Int32 × j_M) yX12_onTheWay cX12_onTheWay 3 (some .int) 1 22 j_ei 4 [(0, .inr (17, 0, 200)), (1, .inl (l1)), (2, .inl (l2))] [] M (xX12_onTheWay_4  n l1 l2 M) := by
  intro n
  induction n with
  | zero => intros; exact J_none
  | succ n ih =>
    intro l1 l2 M
    rw [xX12_onTheWay_4.eq_2]
    refine K_iload_n (q := 5) 2 dX12_onTheWay_4 rfl rfl rfl ?_
    refine K_aload_n (q := 6) 0 dX12_onTheWay_5 rfl rfl rfl ?_
    refine K_getR (q := 9) (ci := 7) (a2 := 201) 0 dX12_onTheWay_6 fRX12_9 rfl rfl (by decide) rfl rfl ?_
    refine K_bipush (q := 11) (v := nI 7) dX12_onTheWay_9 rfl rfl ?_
    refine K_iald (q := 12) dX12_onTheWay_11 rfl (fun v1 => ?_)
    refine K_icmp_ge (q := 15) (tgt := 30) dX12_onTheWay_12 rfl ?_ rfl ?_
    · refine K_iload_n (q := 31) 1 dX12_onTheWay_30 rfl rfl rfl ?_
      exact J_iret dX12_onTheWay_31
    · refine K_iload_n (q := 16) 1 dX12_onTheWay_15 rfl rfl rfl ?_
      refine K_aload_n (q := 17) 0 dX12_onTheWay_16 rfl rfl rfl ?_
      refine K_iload_n (q := 18) 2 dX12_onTheWay_17 rfl rfl rfl ?_
      refine K_iconst (q := 19) (v := nI 4) dX12_onTheWay_18 rfl rfl ?_
      refine K_cvi (q := 22) [.inl (l2), .inl ((nI 4))] dX12_onTheWay_19 cb_X12_of cvRX12_79 rc_7 (show (17 : Nat) ≠ 0 by decide) rfl (Nat.le_of_ble_eq_true rfl) ⟨by decide, by decide⟩ (Nat.le_of_ble_eq_true rfl) rfl (tX12_of l2 (nI 4) M) rfl (fun v3 M2 => ?_)
      refine K_iadd (q := 23) dX12_onTheWay_22 rfl ?_
      refine K_istore_n (q := 24) (ll' := [(1, .inl (l1 + v3)), (0, .inr (17, 0, 200)), (2, .inl (l2))]) dX12_onTheWay_23 rfl (by decide) rfl rfl ?_
      refine K_iinc (q := 27) (v := l2 + (nI 1)) (ll' := [(2, .inl (l2 + (nI 1))), (1, .inl (l1 + v3)), (0, .inr (17, 0, 200))]) 2 dX12_onTheWay_24 rfl rfl (by decide) rfl rfl ?_
      refine J_goto (tgt := 4) dX12_onTheWay_27 rfl ?_
      exact J_sub [2, 1, 0] (ih (l1 + v3) (l2 + (nI 1)) M2) rfl
def xX12_onTheWay   (M : j_M) : Option (Int32 × j_M) := xX12_onTheWay_4 fu (nI 0) (nI 0) M
set_option maxRecDepth 20000 in
set_option maxHeartbeats 2000000 in
theorem tX12_onTheWay   (M : j_M) : J (ρ := Int32 × j_M) yX12_onTheWay cX12_onTheWay 3 (some .int) 1 22 j_ei 0 [(0, .inr (17, 0, 200))] [] M (xX12_onTheWay   M) := by
  unfold xX12_onTheWay
  refine K_iconst (q := 1) (v := nI 0) dX12_onTheWay_0 rfl rfl ?_
  refine K_istore_n (q := 2) (ll' := [(1, .inl ((nI 0))), (0, .inr (17, 0, 200))]) dX12_onTheWay_1 rfl (by decide) rfl rfl ?_
  refine K_iconst (q := 3) (v := nI 0) dX12_onTheWay_2 rfl rfl ?_
  refine K_istore_n (q := 4) (ll' := [(2, .inl ((nI 0))), (1, .inl ((nI 0))), (0, .inr (17, 0, 200))]) dX12_onTheWay_3 rfl (by decide) rfl rfl ?_
  exact J_sub [2, 1, 0] (tX12_onTheWay_4 fu (nI 0) (nI 0) M) rfl
theorem dX12_look_0 : decode cX12_look 0 = .ok (.iload_n 1, 1) := by decide +kernel
theorem dX12_look_1 : decode cX12_look 1 = .ok (.tableswitch 234 0 18 #[91, 98, 105, 112, 119, 126, 133, 141, 149, 157, 165, 173, 181, 189, 194, 202, 207, 216, 225], 91) := by decide +kernel
theorem dX12_look_92 : decode cX12_look 92 = .ok (.aload_n 0, 1) := by decide +kernel
theorem dX12_look_93 : decode cX12_look 93 = .ok (.getfield 9, 3) := by decide +kernel
theorem dX12_look_96 : decode cX12_look 96 = .ok (.iconst 0, 1) := by decide +kernel
theorem dX12_look_97 : decode cX12_look 97 = .ok (.iaload, 1) := by decide +kernel
theorem dX12_look_98 : decode cX12_look 98 = .ok (.ireturn, 1) := by decide +kernel
theorem dX12_look_99 : decode cX12_look 99 = .ok (.aload_n 0, 1) := by decide +kernel
theorem dX12_look_100 : decode cX12_look 100 = .ok (.getfield 9, 3) := by decide +kernel
theorem dX12_look_103 : decode cX12_look 103 = .ok (.iconst 1, 1) := by decide +kernel
theorem dX12_look_104 : decode cX12_look 104 = .ok (.iaload, 1) := by decide +kernel
theorem dX12_look_105 : decode cX12_look 105 = .ok (.ireturn, 1) := by decide +kernel
theorem dX12_look_106 : decode cX12_look 106 = .ok (.aload_n 0, 1) := by decide +kernel
theorem dX12_look_107 : decode cX12_look 107 = .ok (.getfield 9, 3) := by decide +kernel
theorem dX12_look_110 : decode cX12_look 110 = .ok (.iconst 2, 1) := by decide +kernel
theorem dX12_look_111 : decode cX12_look 111 = .ok (.iaload, 1) := by decide +kernel
theorem dX12_look_112 : decode cX12_look 112 = .ok (.ireturn, 1) := by decide +kernel
theorem dX12_look_113 : decode cX12_look 113 = .ok (.aload_n 0, 1) := by decide +kernel
theorem dX12_look_114 : decode cX12_look 114 = .ok (.getfield 9, 3) := by decide +kernel
theorem dX12_look_117 : decode cX12_look 117 = .ok (.iconst 3, 1) := by decide +kernel
theorem dX12_look_118 : decode cX12_look 118 = .ok (.iaload, 1) := by decide +kernel
theorem dX12_look_119 : decode cX12_look 119 = .ok (.ireturn, 1) := by decide +kernel
theorem dX12_look_120 : decode cX12_look 120 = .ok (.aload_n 0, 1) := by decide +kernel
theorem dX12_look_121 : decode cX12_look 121 = .ok (.getfield 9, 3) := by decide +kernel
theorem dX12_look_124 : decode cX12_look 124 = .ok (.iconst 4, 1) := by decide +kernel
theorem dX12_look_125 : decode cX12_look 125 = .ok (.iaload, 1) := by decide +kernel
theorem dX12_look_126 : decode cX12_look 126 = .ok (.ireturn, 1) := by decide +kernel
theorem dX12_look_127 : decode cX12_look 127 = .ok (.aload_n 0, 1) := by decide +kernel
theorem dX12_look_128 : decode cX12_look 128 = .ok (.getfield 9, 3) := by decide +kernel
theorem dX12_look_131 : decode cX12_look 131 = .ok (.iconst 5, 1) := by decide +kernel
theorem dX12_look_132 : decode cX12_look 132 = .ok (.iaload, 1) := by decide +kernel
theorem dX12_look_133 : decode cX12_look 133 = .ok (.ireturn, 1) := by decide +kernel
theorem dX12_look_134 : decode cX12_look 134 = .ok (.aload_n 0, 1) := by decide +kernel
theorem dX12_look_135 : decode cX12_look 135 = .ok (.getfield 9, 3) := by decide +kernel
theorem dX12_look_138 : decode cX12_look 138 = .ok (.bipush 7, 2) := by decide +kernel
theorem dX12_look_140 : decode cX12_look 140 = .ok (.iaload, 1) := by decide +kernel
theorem dX12_look_141 : decode cX12_look 141 = .ok (.ireturn, 1) := by decide +kernel
theorem dX12_look_142 : decode cX12_look 142 = .ok (.aload_n 0, 1) := by decide +kernel
theorem dX12_look_143 : decode cX12_look 143 = .ok (.getfield 9, 3) := by decide +kernel
theorem dX12_look_146 : decode cX12_look 146 = .ok (.bipush 8, 2) := by decide +kernel
theorem dX12_look_148 : decode cX12_look 148 = .ok (.iaload, 1) := by decide +kernel
theorem dX12_look_149 : decode cX12_look 149 = .ok (.ireturn, 1) := by decide +kernel
theorem dX12_look_150 : decode cX12_look 150 = .ok (.aload_n 0, 1) := by decide +kernel
theorem dX12_look_151 : decode cX12_look 151 = .ok (.getfield 9, 3) := by decide +kernel
theorem dX12_look_154 : decode cX12_look 154 = .ok (.bipush 9, 2) := by decide +kernel
theorem dX12_look_156 : decode cX12_look 156 = .ok (.iaload, 1) := by decide +kernel
theorem dX12_look_157 : decode cX12_look 157 = .ok (.ireturn, 1) := by decide +kernel
theorem dX12_look_158 : decode cX12_look 158 = .ok (.aload_n 0, 1) := by decide +kernel
theorem dX12_look_159 : decode cX12_look 159 = .ok (.getfield 9, 3) := by decide +kernel
theorem dX12_look_162 : decode cX12_look 162 = .ok (.bipush 10, 2) := by decide +kernel
theorem dX12_look_164 : decode cX12_look 164 = .ok (.iaload, 1) := by decide +kernel
theorem dX12_look_165 : decode cX12_look 165 = .ok (.ireturn, 1) := by decide +kernel
theorem dX12_look_166 : decode cX12_look 166 = .ok (.aload_n 0, 1) := by decide +kernel
theorem dX12_look_167 : decode cX12_look 167 = .ok (.getfield 9, 3) := by decide +kernel
theorem dX12_look_170 : decode cX12_look 170 = .ok (.bipush 11, 2) := by decide +kernel
theorem dX12_look_172 : decode cX12_look 172 = .ok (.iaload, 1) := by decide +kernel
theorem dX12_look_173 : decode cX12_look 173 = .ok (.ireturn, 1) := by decide +kernel
theorem dX12_look_174 : decode cX12_look 174 = .ok (.aload_n 0, 1) := by decide +kernel
theorem dX12_look_175 : decode cX12_look 175 = .ok (.getfield 9, 3) := by decide +kernel
theorem dX12_look_178 : decode cX12_look 178 = .ok (.bipush 12, 2) := by decide +kernel
theorem dX12_look_180 : decode cX12_look 180 = .ok (.iaload, 1) := by decide +kernel
theorem dX12_look_181 : decode cX12_look 181 = .ok (.ireturn, 1) := by decide +kernel
theorem dX12_look_182 : decode cX12_look 182 = .ok (.aload_n 0, 1) := by decide +kernel
theorem dX12_look_183 : decode cX12_look 183 = .ok (.getfield 9, 3) := by decide +kernel
theorem dX12_look_186 : decode cX12_look 186 = .ok (.bipush 13, 2) := by decide +kernel
theorem dX12_look_188 : decode cX12_look 188 = .ok (.iaload, 1) := by decide +kernel
theorem dX12_look_189 : decode cX12_look 189 = .ok (.ireturn, 1) := by decide +kernel
theorem dX12_look_190 : decode cX12_look 190 = .ok (.aload_n 0, 1) := by decide +kernel
theorem dX12_look_191 : decode cX12_look 191 = .ok (.invokevirtual 434, 3) := by decide +kernel
theorem dX12_look_194 : decode cX12_look 194 = .ok (.ireturn, 1) := by decide +kernel
theorem dX12_look_195 : decode cX12_look 195 = .ok (.aload_n 0, 1) := by decide +kernel
theorem dX12_look_196 : decode cX12_look 196 = .ok (.getfield 9, 3) := by decide +kernel
theorem dX12_look_199 : decode cX12_look 199 = .ok (.bipush 6, 2) := by decide +kernel
theorem dX12_look_201 : decode cX12_look 201 = .ok (.iaload, 1) := by decide +kernel
theorem dX12_look_202 : decode cX12_look 202 = .ok (.ireturn, 1) := by decide +kernel
theorem dX12_look_203 : decode cX12_look 203 = .ok (.aload_n 0, 1) := by decide +kernel
theorem dX12_look_204 : decode cX12_look 204 = .ok (.invokevirtual 437, 3) := by decide +kernel
theorem dX12_look_207 : decode cX12_look 207 = .ok (.ireturn, 1) := by decide +kernel
theorem dX12_look_208 : decode cX12_look 208 = .ok (.aload_n 0, 1) := by decide +kernel
theorem dX12_look_209 : decode cX12_look 209 = .ok (.getfield 9, 3) := by decide +kernel
theorem dX12_look_212 : decode cX12_look 212 = .ok (.sipush 7362, 3) := by decide +kernel
theorem dX12_look_215 : decode cX12_look 215 = .ok (.iaload, 1) := by decide +kernel
theorem dX12_look_216 : decode cX12_look 216 = .ok (.ireturn, 1) := by decide +kernel
theorem dX12_look_217 : decode cX12_look 217 = .ok (.aload_n 0, 1) := by decide +kernel
theorem dX12_look_218 : decode cX12_look 218 = .ok (.getfield 9, 3) := by decide +kernel
theorem dX12_look_221 : decode cX12_look 221 = .ok (.sipush 7363, 3) := by decide +kernel
theorem dX12_look_224 : decode cX12_look 224 = .ok (.iaload, 1) := by decide +kernel
theorem dX12_look_225 : decode cX12_look 225 = .ok (.ireturn, 1) := by decide +kernel
theorem dX12_look_226 : decode cX12_look 226 = .ok (.aload_n 0, 1) := by decide +kernel
theorem dX12_look_227 : decode cX12_look 227 = .ok (.getfield 9, 3) := by decide +kernel
theorem dX12_look_230 : decode cX12_look 230 = .ok (.sipush 6961, 3) := by decide +kernel
theorem dX12_look_233 : decode cX12_look 233 = .ok (.iaload, 1) := by decide +kernel
theorem dX12_look_234 : decode cX12_look 234 = .ok (.ireturn, 1) := by decide +kernel
theorem dX12_look_235 : decode cX12_look 235 = .ok (.ldc_w 440, 3) := by decide +kernel
theorem dX12_look_238 : decode cX12_look 238 = .ok (.ireturn, 1) := by decide +kernel
def xX12_look  (l1 : Int32) (M : j_M) : Option (Int32 × j_M) := osw l1 [((nI 0), gd (nI 0) 7460 (oli (M 201 (ix (nI 0))) fun v1 => some (v1, M))), ((nI 1), gd (nI 1) 7460 (oli (M 201 (ix (nI 1))) fun v2 => some (v2, M))), ((nI 2), gd (nI 2) 7460 (oli (M 201 (ix (nI 2))) fun v3 => some (v3, M))), ((nI 3), gd (nI 3) 7460 (oli (M 201 (ix (nI 3))) fun v4 => some (v4, M))), ((nI 4), gd (nI 4) 7460 (oli (M 201 (ix (nI 4))) fun v5 => some (v5, M))), ((nI 5), gd (nI 5) 7460 (oli (M 201 (ix (nI 5))) fun v6 => some (v6, M))), ((nI 6), gd (nI 7) 7460 (oli (M 201 (ix (nI 7))) fun v7 => some (v7, M))), ((nI 7), gd (nI 8) 7460 (oli (M 201 (ix (nI 8))) fun v8 => some (v8, M))), ((nI 8), gd (nI 9) 7460 (oli (M 201 (ix (nI 9))) fun v9 => some (v9, M))), ((nI 9), gd (nI 10) 7460 (oli (M 201 (ix (nI 10))) fun v10 => some (v10, M))), ((nI 10), gd (nI 11) 7460 (oli (M 201 (ix (nI 11))) fun v11 => some (v11, M))), ((nI 11), gd (nI 12) 7460 (oli (M 201 (ix (nI 12))) fun v12 => some (v12, M))), ((nI 12), gd (nI 13) 7460 (oli (M 201 (ix (nI 13))) fun v13 => some (v13, M))), ((nI 13), obi (xX12_onTheWay M) fun v15 M14 => some (v15, M14)), ((nI 14), gd (nI 6) 7460 (oli (M 201 (ix (nI 6))) fun v16 => some (v16, M))), ((nI 15), obi (xX12_missing M) fun v18 M17 => some (v18, M17)), ((nI 16), gd (nI 7362) 7460 (oli (M 201 (ix (nI 7362))) fun v19 => some (v19, M))), ((nI 17), gd (nI 7363) 7460 (oli (M 201 (ix (nI 7363))) fun v20 => some (v20, M))), ((nI 18), gd (nI 6961) 7460 (oli (M 201 (ix (nI 6961))) fun v21 => some (v21, M)))] (some ((-100000 : Int32), M))
set_option maxRecDepth 20000 in
set_option maxHeartbeats 2000000 in
theorem tX12_look  (l1 : Int32) (M : j_M) : J (ρ := Int32 × j_M) yX12_look cX12_look 2 (some .int) 2 44 j_ei 0 [(0, .inr (17, 0, 200)), (1, .inl (l1))] [] M (xX12_look  l1 M) := by
  unfold xX12_look
  refine K_iload_n (q := 1) 1 dX12_look_0 rfl rfl rfl ?_
  refine K_tsw (dt := 235) [92, 99, 106, 113, 120, 127, 134, 142, 150, 158, 166, 174, 182, 190, 195, 203, 208, 217, 226] dX12_look_1 rfl rfl rfl rfl ⟨?_, ?_, ?_, ?_, ?_, ?_, ?_, ?_, ?_, ?_, ?_, ?_, ?_, ?_, ?_, ?_, ?_, ?_, ?_, trivial⟩ ?_
  · refine K_aload_n (q := 93) 0 dX12_look_92 rfl rfl rfl ?_
    refine K_getR (q := 96) (ci := 7) (a2 := 201) 0 dX12_look_93 fRX12_9 rfl rfl (by decide) rfl rfl ?_
    refine K_iconst (q := 97) (v := nI 0) dX12_look_96 rfl rfl ?_
    refine K_iald (q := 98) dX12_look_97 rfl (fun v1 => ?_)
    exact J_iret dX12_look_98
  · refine K_aload_n (q := 100) 0 dX12_look_99 rfl rfl rfl ?_
    refine K_getR (q := 103) (ci := 7) (a2 := 201) 0 dX12_look_100 fRX12_9 rfl rfl (by decide) rfl rfl ?_
    refine K_iconst (q := 104) (v := nI 1) dX12_look_103 rfl rfl ?_
    refine K_iald (q := 105) dX12_look_104 rfl (fun v2 => ?_)
    exact J_iret dX12_look_105
  · refine K_aload_n (q := 107) 0 dX12_look_106 rfl rfl rfl ?_
    refine K_getR (q := 110) (ci := 7) (a2 := 201) 0 dX12_look_107 fRX12_9 rfl rfl (by decide) rfl rfl ?_
    refine K_iconst (q := 111) (v := nI 2) dX12_look_110 rfl rfl ?_
    refine K_iald (q := 112) dX12_look_111 rfl (fun v3 => ?_)
    exact J_iret dX12_look_112
  · refine K_aload_n (q := 114) 0 dX12_look_113 rfl rfl rfl ?_
    refine K_getR (q := 117) (ci := 7) (a2 := 201) 0 dX12_look_114 fRX12_9 rfl rfl (by decide) rfl rfl ?_
    refine K_iconst (q := 118) (v := nI 3) dX12_look_117 rfl rfl ?_
    refine K_iald (q := 119) dX12_look_118 rfl (fun v4 => ?_)
    exact J_iret dX12_look_119
  · refine K_aload_n (q := 121) 0 dX12_look_120 rfl rfl rfl ?_
    refine K_getR (q := 124) (ci := 7) (a2 := 201) 0 dX12_look_121 fRX12_9 rfl rfl (by decide) rfl rfl ?_
    refine K_iconst (q := 125) (v := nI 4) dX12_look_124 rfl rfl ?_
    refine K_iald (q := 126) dX12_look_125 rfl (fun v5 => ?_)
    exact J_iret dX12_look_126
  · refine K_aload_n (q := 128) 0 dX12_look_127 rfl rfl rfl ?_
    refine K_getR (q := 131) (ci := 7) (a2 := 201) 0 dX12_look_128 fRX12_9 rfl rfl (by decide) rfl rfl ?_
    refine K_iconst (q := 132) (v := nI 5) dX12_look_131 rfl rfl ?_
    refine K_iald (q := 133) dX12_look_132 rfl (fun v6 => ?_)
    exact J_iret dX12_look_133
  · refine K_aload_n (q := 135) 0 dX12_look_134 rfl rfl rfl ?_
    refine K_getR (q := 138) (ci := 7) (a2 := 201) 0 dX12_look_135 fRX12_9 rfl rfl (by decide) rfl rfl ?_
    refine K_bipush (q := 140) (v := nI 7) dX12_look_138 rfl rfl ?_
    refine K_iald (q := 141) dX12_look_140 rfl (fun v7 => ?_)
    exact J_iret dX12_look_141
  · refine K_aload_n (q := 143) 0 dX12_look_142 rfl rfl rfl ?_
    refine K_getR (q := 146) (ci := 7) (a2 := 201) 0 dX12_look_143 fRX12_9 rfl rfl (by decide) rfl rfl ?_
    refine K_bipush (q := 148) (v := nI 8) dX12_look_146 rfl rfl ?_
    refine K_iald (q := 149) dX12_look_148 rfl (fun v8 => ?_)
    exact J_iret dX12_look_149
  · refine K_aload_n (q := 151) 0 dX12_look_150 rfl rfl rfl ?_
    refine K_getR (q := 154) (ci := 7) (a2 := 201) 0 dX12_look_151 fRX12_9 rfl rfl (by decide) rfl rfl ?_
    refine K_bipush (q := 156) (v := nI 9) dX12_look_154 rfl rfl ?_
    refine K_iald (q := 157) dX12_look_156 rfl (fun v9 => ?_)
    exact J_iret dX12_look_157
  · refine K_aload_n (q := 159) 0 dX12_look_158 rfl rfl rfl ?_
    refine K_getR (q := 162) (ci := 7) (a2 := 201) 0 dX12_look_159 fRX12_9 rfl rfl (by decide) rfl rfl ?_
    refine K_bipush (q := 164) (v := nI 10) dX12_look_162 rfl rfl ?_
    refine K_iald (q := 165) dX12_look_164 rfl (fun v10 => ?_)
    exact J_iret dX12_look_165
  · refine K_aload_n (q := 167) 0 dX12_look_166 rfl rfl rfl ?_
    refine K_getR (q := 170) (ci := 7) (a2 := 201) 0 dX12_look_167 fRX12_9 rfl rfl (by decide) rfl rfl ?_
    refine K_bipush (q := 172) (v := nI 11) dX12_look_170 rfl rfl ?_
    refine K_iald (q := 173) dX12_look_172 rfl (fun v11 => ?_)
    exact J_iret dX12_look_173
  · refine K_aload_n (q := 175) 0 dX12_look_174 rfl rfl rfl ?_
    refine K_getR (q := 178) (ci := 7) (a2 := 201) 0 dX12_look_175 fRX12_9 rfl rfl (by decide) rfl rfl ?_
    refine K_bipush (q := 180) (v := nI 12) dX12_look_178 rfl rfl ?_
    refine K_iald (q := 181) dX12_look_180 rfl (fun v12 => ?_)
    exact J_iret dX12_look_181
  · refine K_aload_n (q := 183) 0 dX12_look_182 rfl rfl rfl ?_
    refine K_getR (q := 186) (ci := 7) (a2 := 201) 0 dX12_look_183 fRX12_9 rfl rfl (by decide) rfl rfl ?_
    refine K_bipush (q := 188) (v := nI 13) dX12_look_186 rfl rfl ?_
    refine K_iald (q := 189) dX12_look_188 rfl (fun v13 => ?_)
    exact J_iret dX12_look_189
  · refine K_aload_n (q := 191) 0 dX12_look_190 rfl rfl rfl ?_
    refine K_cvi (q := 194) [] dX12_look_191 cb_X12_onTheWay cvRX12_434 rc_7 (show (17 : Nat) ≠ 0 by decide) rfl (Nat.le_of_ble_eq_true rfl) ⟨by decide, by decide⟩ (Nat.le_of_ble_eq_true rfl) rfl (tX12_onTheWay M) rfl (fun v15 M14 => ?_)
    exact J_iret dX12_look_194
  · refine K_aload_n (q := 196) 0 dX12_look_195 rfl rfl rfl ?_
    refine K_getR (q := 199) (ci := 7) (a2 := 201) 0 dX12_look_196 fRX12_9 rfl rfl (by decide) rfl rfl ?_
    refine K_bipush (q := 201) (v := nI 6) dX12_look_199 rfl rfl ?_
    refine K_iald (q := 202) dX12_look_201 rfl (fun v16 => ?_)
    exact J_iret dX12_look_202
  · refine K_aload_n (q := 204) 0 dX12_look_203 rfl rfl rfl ?_
    refine K_cvi (q := 207) [] dX12_look_204 cb_X12_missing cvRX12_437 rc_7 (show (17 : Nat) ≠ 0 by decide) rfl (Nat.le_of_ble_eq_true rfl) ⟨by decide, by decide⟩ (Nat.le_of_ble_eq_true rfl) rfl (tX12_missing M) rfl (fun v18 M17 => ?_)
    exact J_iret dX12_look_207
  · refine K_aload_n (q := 209) 0 dX12_look_208 rfl rfl rfl ?_
    refine K_getR (q := 212) (ci := 7) (a2 := 201) 0 dX12_look_209 fRX12_9 rfl rfl (by decide) rfl rfl ?_
    refine K_sipush (q := 215) (v := nI 7362) dX12_look_212 rfl rfl ?_
    refine K_iald (q := 216) dX12_look_215 rfl (fun v19 => ?_)
    exact J_iret dX12_look_216
  · refine K_aload_n (q := 218) 0 dX12_look_217 rfl rfl rfl ?_
    refine K_getR (q := 221) (ci := 7) (a2 := 201) 0 dX12_look_218 fRX12_9 rfl rfl (by decide) rfl rfl ?_
    refine K_sipush (q := 224) (v := nI 7363) dX12_look_221 rfl rfl ?_
    refine K_iald (q := 225) dX12_look_224 rfl (fun v20 => ?_)
    exact J_iret dX12_look_225
  · refine K_aload_n (q := 227) 0 dX12_look_226 rfl rfl rfl ?_
    refine K_getR (q := 230) (ci := 7) (a2 := 201) 0 dX12_look_227 fRX12_9 rfl rfl (by decide) rfl rfl ?_
    refine K_sipush (q := 233) (v := nI 6961) dX12_look_230 rfl rfl ?_
    refine K_iald (q := 234) dX12_look_233 rfl (fun v21 => ?_)
    exact J_iret dX12_look_234
  · refine K_ldcw (q := 238) (v := -100000) dX12_look_235 (j_in 1811 (by decide +kernel) (by decide +kernel)) rfl ?_
    exact J_iret dX12_look_238
theorem dX12_message_0 : decode cX12_message 0 = .ok (.iload_n 1, 1) := by decide +kernel
theorem dX12_message_1 : decode cX12_message 1 = .ok (.iconst 0, 1) := by decide +kernel
theorem dX12_message_2 : decode cX12_message 2 = .ok (.aload_n 0, 1) := by decide +kernel
theorem dX12_message_3 : decode cX12_message 3 = .ok (.getfield 9, 3) := by decide +kernel
theorem dX12_message_6 : decode cX12_message 6 = .ok (.bipush 7, 2) := by decide +kernel
theorem dX12_message_8 : decode cX12_message 8 = .ok (.iaload, 1) := by decide +kernel
theorem dX12_message_9 : decode cX12_message 9 = .ok (.iconst 1, 1) := by decide +kernel
theorem dX12_message_10 : decode cX12_message 10 = .ok (.isub, 1) := by decide +kernel
theorem dX12_message_11 : decode cX12_message 11 = .ok (.invokestatic 65, 3) := by decide +kernel
theorem dX12_message_14 : decode cX12_message 14 = .ok (.ifCond .eq 22, 3) := by decide +kernel
theorem dX12_message_17 : decode cX12_message 17 = .ok (.iload_n 2, 1) := by decide +kernel
theorem dX12_message_18 : decode cX12_message 18 = .ok (.iconst 0, 1) := by decide +kernel
theorem dX12_message_19 : decode cX12_message 19 = .ok (.bipush 8, 2) := by decide +kernel
theorem dX12_message_21 : decode cX12_message 21 = .ok (.invokestatic 65, 3) := by decide +kernel
theorem dX12_message_24 : decode cX12_message 24 = .ok (.ifCond .eq 12, 3) := by decide +kernel
theorem dX12_message_27 : decode cX12_message 27 = .ok (.aload_n 0, 1) := by decide +kernel
theorem dX12_message_28 : decode cX12_message 28 = .ok (.iload_n 1, 1) := by decide +kernel
theorem dX12_message_29 : decode cX12_message 29 = .ok (.iload_n 2, 1) := by decide +kernel
theorem dX12_message_30 : decode cX12_message 30 = .ok (.invokevirtual 79, 3) := by decide +kernel
theorem dX12_message_33 : decode cX12_message 33 = .ok (.goto 5, 3) := by decide +kernel
theorem dX12_message_36 : decode cX12_message 36 = .ok (.bipush (-2), 2) := by decide +kernel
theorem dX12_message_38 : decode cX12_message 38 = .ok (.ireturn, 1) := by decide +kernel
def xX12_message  (l1 : Int32) (l2 : Int32) (M : j_M) : Option (Int32 × j_M) := gd (nI 7) 7460 (oli (M 201 (ix (nI 7))) fun v1 => obi (xX12_isIn l1 (nI 0) (v1 - (nI 1)) M) fun v3 M2 => (if v3 = (0 : Int32) then some ((-2 : Int32), M2) else obi (xX12_isIn l2 (nI 0) (nI 8) M2) fun v5 M4 => (if v5 = (0 : Int32) then some ((-2 : Int32), M4) else obi (xX12_of l1 l2 M4) fun v7 M6 => some (v7, M6))))
set_option maxRecDepth 20000 in
set_option maxHeartbeats 2000000 in
theorem tX12_message  (l1 : Int32) (l2 : Int32) (M : j_M) : J (ρ := Int32 × j_M) yX12_message cX12_message 3 (some .int) 1 22 j_ei 0 [(0, .inr (17, 0, 200)), (1, .inl (l1)), (2, .inl (l2))] [] M (xX12_message  l1 l2 M) := by
  unfold xX12_message
  refine K_iload_n (q := 1) 1 dX12_message_0 rfl rfl rfl ?_
  refine K_iconst (q := 2) (v := nI 0) dX12_message_1 rfl rfl ?_
  refine K_aload_n (q := 3) 0 dX12_message_2 rfl rfl rfl ?_
  refine K_getR (q := 6) (ci := 7) (a2 := 201) 0 dX12_message_3 fRX12_9 rfl rfl (by decide) rfl rfl ?_
  refine K_bipush (q := 8) (v := nI 7) dX12_message_6 rfl rfl ?_
  refine K_iald (q := 9) dX12_message_8 rfl (fun v1 => ?_)
  refine K_iconst (q := 10) (v := nI 1) dX12_message_9 rfl rfl ?_
  refine K_isub (q := 11) dX12_message_10 rfl ?_
  refine K_csi (q := 14) [.inl (l1), .inl ((nI 0)), .inl (v1 - (nI 1))] dX12_message_11 cb_X12_isIn cvRX12_65 rfl (Nat.le_of_ble_eq_true rfl) ⟨by decide, by decide⟩ (Nat.le_of_ble_eq_true rfl) rfl (tX12_isIn l1 (nI 0) (v1 - (nI 1)) M) rfl (fun v3 M2 => ?_)
  refine K_if_eq (q := 17) (tgt := 36) dX12_message_14 rfl ?_ rfl ?_
  · refine K_bipush (q := 38) (v := -2) dX12_message_36 rfl rfl ?_
    exact J_iret dX12_message_38
  · refine K_iload_n (q := 18) 2 dX12_message_17 rfl rfl rfl ?_
    refine K_iconst (q := 19) (v := nI 0) dX12_message_18 rfl rfl ?_
    refine K_bipush (q := 21) (v := nI 8) dX12_message_19 rfl rfl ?_
    refine K_csi (q := 24) [.inl (l2), .inl ((nI 0)), .inl ((nI 8))] dX12_message_21 cb_X12_isIn cvRX12_65 rfl (Nat.le_of_ble_eq_true rfl) ⟨by decide, by decide⟩ (Nat.le_of_ble_eq_true rfl) rfl (tX12_isIn l2 (nI 0) (nI 8) M2) rfl (fun v5 M4 => ?_)
    refine K_if_eq (q := 27) (tgt := 36) dX12_message_24 rfl ?_ rfl ?_
    · refine K_bipush (q := 38) (v := -2) dX12_message_36 rfl rfl ?_
      exact J_iret dX12_message_38
    · refine K_aload_n (q := 28) 0 dX12_message_27 rfl rfl rfl ?_
      refine K_iload_n (q := 29) 1 dX12_message_28 rfl rfl rfl ?_
      refine K_iload_n (q := 30) 2 dX12_message_29 rfl rfl rfl ?_
      refine K_cvi (q := 33) [.inl (l1), .inl (l2)] dX12_message_30 cb_X12_of cvRX12_79 rc_7 (show (17 : Nat) ≠ 0 by decide) rfl (Nat.le_of_ble_eq_true rfl) ⟨by decide, by decide⟩ (Nat.le_of_ble_eq_true rfl) rfl (tX12_of l1 l2 M4) rfl (fun v7 M6 => ?_)
      refine J_goto (tgt := 38) dX12_message_33 rfl ?_
      exact J_iret dX12_message_38
theorem dX12_miss_0 : decode cX12_miss 0 = .ok (.aload_n 0, 1) := by decide +kernel
theorem dX12_miss_1 : decode cX12_miss 1 = .ok (.iload_n 1, 1) := by decide +kernel
theorem dX12_miss_2 : decode cX12_miss 2 = .ok (.invokevirtual 69, 3) := by decide +kernel
theorem dX12_miss_5 : decode cX12_miss 5 = .ok (.ifCond .eq 17, 3) := by decide +kernel
theorem dX12_miss_8 : decode cX12_miss 8 = .ok (.aload_n 0, 1) := by decide +kernel
theorem dX12_miss_9 : decode cX12_miss 9 = .ok (.getfield 9, 3) := by decide +kernel
theorem dX12_miss_12 : decode cX12_miss 12 = .ok (.sipush 292, 3) := by decide +kernel
theorem dX12_miss_15 : decode cX12_miss 15 = .ok (.iload_n 1, 1) := by decide +kernel
theorem dX12_miss_16 : decode cX12_miss 16 = .ok (.iadd, 1) := by decide +kernel
theorem dX12_miss_17 : decode cX12_miss 17 = .ok (.iaload, 1) := by decide +kernel
theorem dX12_miss_18 : decode cX12_miss 18 = .ok (.iconst (-1), 1) := by decide +kernel
theorem dX12_miss_19 : decode cX12_miss 19 = .ok (.if_icmp .ne 5, 3) := by decide +kernel
theorem dX12_miss_22 : decode cX12_miss 22 = .ok (.iconst (-1), 1) := by decide +kernel
theorem dX12_miss_23 : decode cX12_miss 23 = .ok (.ireturn, 1) := by decide +kernel
theorem dX12_miss_24 : decode cX12_miss 24 = .ok (.iload_n 2, 1) := by decide +kernel
theorem dX12_miss_25 : decode cX12_miss 25 = .ok (.tableswitch 105 0 5 #[39, 50, 61, 72, 83, 94], 39) := by decide +kernel
theorem dX12_miss_64 : decode cX12_miss 64 = .ok (.aload_n 0, 1) := by decide +kernel
theorem dX12_miss_65 : decode cX12_miss 65 = .ok (.getfield 9, 3) := by decide +kernel
theorem dX12_miss_68 : decode cX12_miss 68 = .ok (.sipush 292, 3) := by decide +kernel
theorem dX12_miss_71 : decode cX12_miss 71 = .ok (.iload_n 1, 1) := by decide +kernel
theorem dX12_miss_72 : decode cX12_miss 72 = .ok (.iadd, 1) := by decide +kernel
theorem dX12_miss_73 : decode cX12_miss 73 = .ok (.iaload, 1) := by decide +kernel
theorem dX12_miss_74 : decode cX12_miss 74 = .ok (.ireturn, 1) := by decide +kernel
theorem dX12_miss_75 : decode cX12_miss 75 = .ok (.aload_n 0, 1) := by decide +kernel
theorem dX12_miss_76 : decode cX12_miss 76 = .ok (.getfield 9, 3) := by decide +kernel
theorem dX12_miss_79 : decode cX12_miss 79 = .ok (.sipush 298, 3) := by decide +kernel
theorem dX12_miss_82 : decode cX12_miss 82 = .ok (.iload_n 1, 1) := by decide +kernel
theorem dX12_miss_83 : decode cX12_miss 83 = .ok (.iadd, 1) := by decide +kernel
theorem dX12_miss_84 : decode cX12_miss 84 = .ok (.iaload, 1) := by decide +kernel
theorem dX12_miss_85 : decode cX12_miss 85 = .ok (.ireturn, 1) := by decide +kernel
theorem dX12_miss_86 : decode cX12_miss 86 = .ok (.aload_n 0, 1) := by decide +kernel
theorem dX12_miss_87 : decode cX12_miss 87 = .ok (.getfield 9, 3) := by decide +kernel
theorem dX12_miss_90 : decode cX12_miss 90 = .ok (.sipush 304, 3) := by decide +kernel
theorem dX12_miss_93 : decode cX12_miss 93 = .ok (.iload_n 1, 1) := by decide +kernel
theorem dX12_miss_94 : decode cX12_miss 94 = .ok (.iadd, 1) := by decide +kernel
theorem dX12_miss_95 : decode cX12_miss 95 = .ok (.iaload, 1) := by decide +kernel
theorem dX12_miss_96 : decode cX12_miss 96 = .ok (.ireturn, 1) := by decide +kernel
theorem dX12_miss_97 : decode cX12_miss 97 = .ok (.aload_n 0, 1) := by decide +kernel
theorem dX12_miss_98 : decode cX12_miss 98 = .ok (.getfield 9, 3) := by decide +kernel
theorem dX12_miss_101 : decode cX12_miss 101 = .ok (.sipush 526, 3) := by decide +kernel
theorem dX12_miss_104 : decode cX12_miss 104 = .ok (.iload_n 1, 1) := by decide +kernel
theorem dX12_miss_105 : decode cX12_miss 105 = .ok (.iadd, 1) := by decide +kernel
theorem dX12_miss_106 : decode cX12_miss 106 = .ok (.iaload, 1) := by decide +kernel
theorem dX12_miss_107 : decode cX12_miss 107 = .ok (.ireturn, 1) := by decide +kernel
theorem dX12_miss_108 : decode cX12_miss 108 = .ok (.aload_n 0, 1) := by decide +kernel
theorem dX12_miss_109 : decode cX12_miss 109 = .ok (.getfield 9, 3) := by decide +kernel
theorem dX12_miss_112 : decode cX12_miss 112 = .ok (.sipush 532, 3) := by decide +kernel
theorem dX12_miss_115 : decode cX12_miss 115 = .ok (.iload_n 1, 1) := by decide +kernel
theorem dX12_miss_116 : decode cX12_miss 116 = .ok (.iadd, 1) := by decide +kernel
theorem dX12_miss_117 : decode cX12_miss 117 = .ok (.iaload, 1) := by decide +kernel
theorem dX12_miss_118 : decode cX12_miss 118 = .ok (.ireturn, 1) := by decide +kernel
theorem dX12_miss_119 : decode cX12_miss 119 = .ok (.aload_n 0, 1) := by decide +kernel
theorem dX12_miss_120 : decode cX12_miss 120 = .ok (.getfield 9, 3) := by decide +kernel
theorem dX12_miss_123 : decode cX12_miss 123 = .ok (.sipush 310, 3) := by decide +kernel
theorem dX12_miss_126 : decode cX12_miss 126 = .ok (.iload_n 1, 1) := by decide +kernel
theorem dX12_miss_127 : decode cX12_miss 127 = .ok (.iadd, 1) := by decide +kernel
theorem dX12_miss_128 : decode cX12_miss 128 = .ok (.iaload, 1) := by decide +kernel
theorem dX12_miss_129 : decode cX12_miss 129 = .ok (.ireturn, 1) := by decide +kernel
theorem dX12_miss_130 : decode cX12_miss 130 = .ok (.iconst (-1), 1) := by decide +kernel
theorem dX12_miss_131 : decode cX12_miss 131 = .ok (.ireturn, 1) := by decide +kernel
def xX12_miss  (l1 : Int32) (l2 : Int32) (M : j_M) : Option (Int32 × j_M) := obi (xX12_isCpu l1 M) fun v2 M1 => (if v2 = (0 : Int32) then some ((-1 : Int32), M1) else gd ((nI 292) + l1) 7460 (oli (M1 201 (ix ((nI 292) + l1))) fun v3 => (if v3 = (-1 : Int32) then some ((-1 : Int32), M1) else osw l2 [((nI 0), gd ((nI 292) + l1) 7460 (oli (M1 201 (ix ((nI 292) + l1))) fun v4 => some (v4, M1))), ((nI 1), gd ((nI 298) + l1) 7460 (oli (M1 201 (ix ((nI 298) + l1))) fun v5 => some (v5, M1))), ((nI 2), gd ((nI 304) + l1) 7460 (oli (M1 201 (ix ((nI 304) + l1))) fun v6 => some (v6, M1))), ((nI 3), gd ((nI 526) + l1) 7460 (oli (M1 201 (ix ((nI 526) + l1))) fun v7 => some (v7, M1))), ((nI 4), gd ((nI 532) + l1) 7460 (oli (M1 201 (ix ((nI 532) + l1))) fun v8 => some (v8, M1))), ((nI 5), gd ((nI 310) + l1) 7460 (oli (M1 201 (ix ((nI 310) + l1))) fun v9 => some (v9, M1)))] (some ((-1 : Int32), M1)))))
set_option maxRecDepth 20000 in
set_option maxHeartbeats 2000000 in
theorem tX12_miss  (l1 : Int32) (l2 : Int32) (M : j_M) : J (ρ := Int32 × j_M) yX12_miss cX12_miss 3 (some .int) 2 43 j_ei 0 [(0, .inr (17, 0, 200)), (1, .inl (l1)), (2, .inl (l2))] [] M (xX12_miss  l1 l2 M) := by
  unfold xX12_miss
  refine K_aload_n (q := 1) 0 dX12_miss_0 rfl rfl rfl ?_
  refine K_iload_n (q := 2) 1 dX12_miss_1 rfl rfl rfl ?_
  refine K_cvi (q := 5) [.inl (l1)] dX12_miss_2 cb_X12_isCpu cvRX12_69 rc_7 (show (17 : Nat) ≠ 0 by decide) rfl (Nat.le_of_ble_eq_true rfl) ⟨by decide, by decide⟩ (Nat.le_of_ble_eq_true rfl) rfl (tX12_isCpu l1 M) rfl (fun v2 M1 => ?_)
  refine K_if_eq (q := 8) (tgt := 22) dX12_miss_5 rfl ?_ rfl ?_
  · refine K_iconst (q := 23) (v := -1) dX12_miss_22 rfl rfl ?_
    exact J_iret dX12_miss_23
  · refine K_aload_n (q := 9) 0 dX12_miss_8 rfl rfl rfl ?_
    refine K_getR (q := 12) (ci := 7) (a2 := 201) 0 dX12_miss_9 fRX12_9 rfl rfl (by decide) rfl rfl ?_
    refine K_sipush (q := 15) (v := nI 292) dX12_miss_12 rfl rfl ?_
    refine K_iload_n (q := 16) 1 dX12_miss_15 rfl rfl rfl ?_
    refine K_iadd (q := 17) dX12_miss_16 rfl ?_
    refine K_iald (q := 18) dX12_miss_17 rfl (fun v3 => ?_)
    refine K_iconst (q := 19) (v := -1) dX12_miss_18 rfl rfl ?_
    refine K_icmp_ne (q := 22) (tgt := 24) dX12_miss_19 rfl ?_ rfl ?_
    · refine K_iload_n (q := 25) 2 dX12_miss_24 rfl rfl rfl ?_
      refine K_tsw (dt := 130) [64, 75, 86, 97, 108, 119] dX12_miss_25 rfl rfl rfl rfl ⟨?_, ?_, ?_, ?_, ?_, ?_, trivial⟩ ?_
      · refine K_aload_n (q := 65) 0 dX12_miss_64 rfl rfl rfl ?_
        refine K_getR (q := 68) (ci := 7) (a2 := 201) 0 dX12_miss_65 fRX12_9 rfl rfl (by decide) rfl rfl ?_
        refine K_sipush (q := 71) (v := nI 292) dX12_miss_68 rfl rfl ?_
        refine K_iload_n (q := 72) 1 dX12_miss_71 rfl rfl rfl ?_
        refine K_iadd (q := 73) dX12_miss_72 rfl ?_
        refine K_iald (q := 74) dX12_miss_73 rfl (fun v4 => ?_)
        exact J_iret dX12_miss_74
      · refine K_aload_n (q := 76) 0 dX12_miss_75 rfl rfl rfl ?_
        refine K_getR (q := 79) (ci := 7) (a2 := 201) 0 dX12_miss_76 fRX12_9 rfl rfl (by decide) rfl rfl ?_
        refine K_sipush (q := 82) (v := nI 298) dX12_miss_79 rfl rfl ?_
        refine K_iload_n (q := 83) 1 dX12_miss_82 rfl rfl rfl ?_
        refine K_iadd (q := 84) dX12_miss_83 rfl ?_
        refine K_iald (q := 85) dX12_miss_84 rfl (fun v5 => ?_)
        exact J_iret dX12_miss_85
      · refine K_aload_n (q := 87) 0 dX12_miss_86 rfl rfl rfl ?_
        refine K_getR (q := 90) (ci := 7) (a2 := 201) 0 dX12_miss_87 fRX12_9 rfl rfl (by decide) rfl rfl ?_
        refine K_sipush (q := 93) (v := nI 304) dX12_miss_90 rfl rfl ?_
        refine K_iload_n (q := 94) 1 dX12_miss_93 rfl rfl rfl ?_
        refine K_iadd (q := 95) dX12_miss_94 rfl ?_
        refine K_iald (q := 96) dX12_miss_95 rfl (fun v6 => ?_)
        exact J_iret dX12_miss_96
      · refine K_aload_n (q := 98) 0 dX12_miss_97 rfl rfl rfl ?_
        refine K_getR (q := 101) (ci := 7) (a2 := 201) 0 dX12_miss_98 fRX12_9 rfl rfl (by decide) rfl rfl ?_
        refine K_sipush (q := 104) (v := nI 526) dX12_miss_101 rfl rfl ?_
        refine K_iload_n (q := 105) 1 dX12_miss_104 rfl rfl rfl ?_
        refine K_iadd (q := 106) dX12_miss_105 rfl ?_
        refine K_iald (q := 107) dX12_miss_106 rfl (fun v7 => ?_)
        exact J_iret dX12_miss_107
      · refine K_aload_n (q := 109) 0 dX12_miss_108 rfl rfl rfl ?_
        refine K_getR (q := 112) (ci := 7) (a2 := 201) 0 dX12_miss_109 fRX12_9 rfl rfl (by decide) rfl rfl ?_
        refine K_sipush (q := 115) (v := nI 532) dX12_miss_112 rfl rfl ?_
        refine K_iload_n (q := 116) 1 dX12_miss_115 rfl rfl rfl ?_
        refine K_iadd (q := 117) dX12_miss_116 rfl ?_
        refine K_iald (q := 118) dX12_miss_117 rfl (fun v8 => ?_)
        exact J_iret dX12_miss_118
      · refine K_aload_n (q := 120) 0 dX12_miss_119 rfl rfl rfl ?_
        refine K_getR (q := 123) (ci := 7) (a2 := 201) 0 dX12_miss_120 fRX12_9 rfl rfl (by decide) rfl rfl ?_
        refine K_sipush (q := 126) (v := nI 310) dX12_miss_123 rfl rfl ?_
        refine K_iload_n (q := 127) 1 dX12_miss_126 rfl rfl rfl ?_
        refine K_iadd (q := 128) dX12_miss_127 rfl ?_
        refine K_iald (q := 129) dX12_miss_128 rfl (fun v9 => ?_)
        exact J_iret dX12_miss_129
      · refine K_iconst (q := 131) (v := -1) dX12_miss_130 rfl rfl ?_
        exact J_iret dX12_miss_131
    · refine K_iconst (q := 23) (v := -1) dX12_miss_22 rfl rfl ?_
      exact J_iret dX12_miss_23
theorem dX12_node_0 : decode cX12_node 0 = .ok (.aload_n 0, 1) := by decide +kernel
theorem dX12_node_1 : decode cX12_node 1 = .ok (.iload_n 1, 1) := by decide +kernel
theorem dX12_node_2 : decode cX12_node 2 = .ok (.invokevirtual 119, 3) := by decide +kernel
theorem dX12_node_5 : decode cX12_node 5 = .ok (.ifCond .eq 10, 3) := by decide +kernel
theorem dX12_node_8 : decode cX12_node 8 = .ok (.iload_n 2, 1) := by decide +kernel
theorem dX12_node_9 : decode cX12_node 9 = .ok (.invokestatic 140, 3) := by decide +kernel
theorem dX12_node_12 : decode cX12_node 12 = .ok (.ifCond .ne 6, 3) := by decide +kernel
theorem dX12_node_15 : decode cX12_node 15 = .ok (.bipush (-2), 2) := by decide +kernel
theorem dX12_node_17 : decode cX12_node 17 = .ok (.ireturn, 1) := by decide +kernel
theorem dX12_node_18 : decode cX12_node 18 = .ok (.iload_n 1, 1) := by decide +kernel
theorem dX12_node_19 : decode cX12_node 19 = .ok (.iload_n 2, 1) := by decide +kernel
theorem dX12_node_20 : decode cX12_node 20 = .ok (.invokestatic 61, 3) := by decide +kernel
theorem dX12_node_23 : decode cX12_node 23 = .ok (.istore 4, 2) := by decide +kernel
theorem dX12_node_25 : decode cX12_node 25 = .ok (.iload_n 3, 1) := by decide +kernel
theorem dX12_node_26 : decode cX12_node 26 = .ok (.tableswitch 151 0 6 #[42, 53, 64, 75, 105, 112, 134], 42) := by decide +kernel
theorem dX12_node_68 : decode cX12_node 68 = .ok (.aload_n 0, 1) := by decide +kernel
theorem dX12_node_69 : decode cX12_node 69 = .ok (.getfield 9, 3) := by decide +kernel
theorem dX12_node_72 : decode cX12_node 72 = .ok (.bipush 14, 2) := by decide +kernel
theorem dX12_node_74 : decode cX12_node 74 = .ok (.iload 4, 2) := by decide +kernel
theorem dX12_node_76 : decode cX12_node 76 = .ok (.iadd, 1) := by decide +kernel
theorem dX12_node_77 : decode cX12_node 77 = .ok (.iaload, 1) := by decide +kernel
theorem dX12_node_78 : decode cX12_node 78 = .ok (.ireturn, 1) := by decide +kernel
theorem dX12_node_79 : decode cX12_node 79 = .ok (.aload_n 0, 1) := by decide +kernel
theorem dX12_node_80 : decode cX12_node 80 = .ok (.getfield 9, 3) := by decide +kernel
theorem dX12_node_83 : decode cX12_node 83 = .ok (.bipush 70, 2) := by decide +kernel
theorem dX12_node_85 : decode cX12_node 85 = .ok (.iload 4, 2) := by decide +kernel
theorem dX12_node_87 : decode cX12_node 87 = .ok (.iadd, 1) := by decide +kernel
theorem dX12_node_88 : decode cX12_node 88 = .ok (.iaload, 1) := by decide +kernel
theorem dX12_node_89 : decode cX12_node 89 = .ok (.ireturn, 1) := by decide +kernel
theorem dX12_node_90 : decode cX12_node 90 = .ok (.aload_n 0, 1) := by decide +kernel
theorem dX12_node_91 : decode cX12_node 91 = .ok (.getfield 9, 3) := by decide +kernel
theorem dX12_node_94 : decode cX12_node 94 = .ok (.bipush 126, 2) := by decide +kernel
theorem dX12_node_96 : decode cX12_node 96 = .ok (.iload 4, 2) := by decide +kernel
theorem dX12_node_98 : decode cX12_node 98 = .ok (.iadd, 1) := by decide +kernel
theorem dX12_node_99 : decode cX12_node 99 = .ok (.iaload, 1) := by decide +kernel
theorem dX12_node_100 : decode cX12_node 100 = .ok (.ireturn, 1) := by decide +kernel
theorem dX12_node_101 : decode cX12_node 101 = .ok (.aload_n 0, 1) := by decide +kernel
theorem dX12_node_102 : decode cX12_node 102 = .ok (.getfield 9, 3) := by decide +kernel
theorem dX12_node_105 : decode cX12_node 105 = .ok (.bipush 126, 2) := by decide +kernel
theorem dX12_node_107 : decode cX12_node 107 = .ok (.iload 4, 2) := by decide +kernel
theorem dX12_node_109 : decode cX12_node 109 = .ok (.iadd, 1) := by decide +kernel
theorem dX12_node_110 : decode cX12_node 110 = .ok (.iaload, 1) := by decide +kernel
theorem dX12_node_111 : decode cX12_node 111 = .ok (.iconst 1, 1) := by decide +kernel
theorem dX12_node_112 : decode cX12_node 112 = .ok (.if_icmp .ne 17, 3) := by decide +kernel
theorem dX12_node_115 : decode cX12_node 115 = .ok (.aload_n 0, 1) := by decide +kernel
theorem dX12_node_116 : decode cX12_node 116 = .ok (.getfield 9, 3) := by decide +kernel
theorem dX12_node_119 : decode cX12_node 119 = .ok (.sipush 182, 3) := by decide +kernel
theorem dX12_node_122 : decode cX12_node 122 = .ok (.iload 4, 2) := by decide +kernel
theorem dX12_node_124 : decode cX12_node 124 = .ok (.iadd, 1) := by decide +kernel
theorem dX12_node_125 : decode cX12_node 125 = .ok (.iaload, 1) := by decide +kernel
theorem dX12_node_126 : decode cX12_node 126 = .ok (.goto 4, 3) := by decide +kernel
theorem dX12_node_129 : decode cX12_node 129 = .ok (.iconst (-1), 1) := by decide +kernel
theorem dX12_node_130 : decode cX12_node 130 = .ok (.ireturn, 1) := by decide +kernel
theorem dX12_node_131 : decode cX12_node 131 = .ok (.aload_n 0, 1) := by decide +kernel
theorem dX12_node_132 : decode cX12_node 132 = .ok (.iload_n 1, 1) := by decide +kernel
theorem dX12_node_133 : decode cX12_node 133 = .ok (.iload_n 2, 1) := by decide +kernel
theorem dX12_node_134 : decode cX12_node 134 = .ok (.invokevirtual 112, 3) := by decide +kernel
theorem dX12_node_137 : decode cX12_node 137 = .ok (.ireturn, 1) := by decide +kernel
theorem dX12_node_138 : decode cX12_node 138 = .ok (.iload_n 1, 1) := by decide +kernel
theorem dX12_node_139 : decode cX12_node 139 = .ok (.bipush 6, 2) := by decide +kernel
theorem dX12_node_141 : decode cX12_node 141 = .ok (.if_icmp .ne 7, 3) := by decide +kernel
theorem dX12_node_144 : decode cX12_node 144 = .ok (.iconst (-1), 1) := by decide +kernel
theorem dX12_node_145 : decode cX12_node 145 = .ok (.goto 14, 3) := by decide +kernel
theorem dX12_node_148 : decode cX12_node 148 = .ok (.aload_n 0, 1) := by decide +kernel
theorem dX12_node_149 : decode cX12_node 149 = .ok (.getfield 9, 3) := by decide +kernel
theorem dX12_node_152 : decode cX12_node 152 = .ok (.sipush 538, 3) := by decide +kernel
theorem dX12_node_155 : decode cX12_node 155 = .ok (.iload 4, 2) := by decide +kernel
theorem dX12_node_157 : decode cX12_node 157 = .ok (.iadd, 1) := by decide +kernel
theorem dX12_node_158 : decode cX12_node 158 = .ok (.iaload, 1) := by decide +kernel
theorem dX12_node_159 : decode cX12_node 159 = .ok (.ireturn, 1) := by decide +kernel
theorem dX12_node_160 : decode cX12_node 160 = .ok (.iload_n 1, 1) := by decide +kernel
theorem dX12_node_161 : decode cX12_node 161 = .ok (.bipush 6, 2) := by decide +kernel
theorem dX12_node_163 : decode cX12_node 163 = .ok (.if_icmp .ne 7, 3) := by decide +kernel
theorem dX12_node_166 : decode cX12_node 166 = .ok (.iconst (-1), 1) := by decide +kernel
theorem dX12_node_167 : decode cX12_node 167 = .ok (.goto 9, 3) := by decide +kernel
theorem dX12_node_170 : decode cX12_node 170 = .ok (.aload_n 0, 1) := by decide +kernel
theorem dX12_node_171 : decode cX12_node 171 = .ok (.iload_n 1, 1) := by decide +kernel
theorem dX12_node_172 : decode cX12_node 172 = .ok (.iload_n 2, 1) := by decide +kernel
theorem dX12_node_173 : decode cX12_node 173 = .ok (.invokevirtual 98, 3) := by decide +kernel
theorem dX12_node_176 : decode cX12_node 176 = .ok (.ireturn, 1) := by decide +kernel
theorem dX12_node_177 : decode cX12_node 177 = .ok (.bipush (-2), 2) := by decide +kernel
theorem dX12_node_179 : decode cX12_node 179 = .ok (.ireturn, 1) := by decide +kernel
def xX12_node  (l1 : Int32) (l2 : Int32) (l3 : Int32) (M : j_M) : Option (Int32 × j_M) := obi (xX12_isNode l1 M) fun v2 M1 => (if v2 = (0 : Int32) then some ((-2 : Int32), M1) else obi (xX12_isLine l2 M1) fun v4 M3 => (if v4 = (0 : Int32) then some ((-2 : Int32), M3) else obi (xX12_place l1 l2 M3) fun v6 M5 => osw l3 [((nI 0), gd ((nI 14) + v6) 7460 (oli (M5 201 (ix ((nI 14) + v6))) fun v7 => some (v7, M5))), ((nI 1), gd ((nI 70) + v6) 7460 (oli (M5 201 (ix ((nI 70) + v6))) fun v8 => some (v8, M5))), ((nI 2), gd ((nI 126) + v6) 7460 (oli (M5 201 (ix ((nI 126) + v6))) fun v9 => some (v9, M5))), ((nI 3), gd ((nI 126) + v6) 7460 (oli (M5 201 (ix ((nI 126) + v6))) fun v10 => (if v10 = (nI 1) then gd ((nI 182) + v6) 7460 (oli (M5 201 (ix ((nI 182) + v6))) fun v11 => some (v11, M5)) else some ((-1 : Int32), M5)))), ((nI 4), obi (xX12_turn l1 l2 M5) fun v13 M12 => some (v13, M12)), ((nI 5), (if l1 = (nI 6) then some ((-1 : Int32), M5) else gd ((nI 538) + v6) 7460 (oli (M5 201 (ix ((nI 538) + v6))) fun v14 => some (v14, M5)))), ((nI 6), (if l1 = (nI 6) then some ((-1 : Int32), M5) else obi (xX12_usedAt l1 l2 M5) fun v16 M15 => some (v16, M15)))] (some ((-2 : Int32), M5))))
set_option maxRecDepth 20000 in
set_option maxHeartbeats 2000000 in
theorem tX12_node  (l1 : Int32) (l2 : Int32) (l3 : Int32) (M : j_M) : J (ρ := Int32 × j_M) yX12_node cX12_node 5 (some .int) 3 64 j_ei 0 [(0, .inr (17, 0, 200)), (1, .inl (l1)), (2, .inl (l2)), (3, .inl (l3))] [] M (xX12_node  l1 l2 l3 M) := by
  unfold xX12_node
  refine K_aload_n (q := 1) 0 dX12_node_0 rfl rfl rfl ?_
  refine K_iload_n (q := 2) 1 dX12_node_1 rfl rfl rfl ?_
  refine K_cvi (q := 5) [.inl (l1)] dX12_node_2 cb_X12_isNode cvRX12_119 rc_7 (show (17 : Nat) ≠ 0 by decide) rfl (Nat.le_of_ble_eq_true rfl) ⟨by decide, by decide⟩ (Nat.le_of_ble_eq_true rfl) rfl (tX12_isNode l1 M) rfl (fun v2 M1 => ?_)
  refine K_if_eq (q := 8) (tgt := 15) dX12_node_5 rfl ?_ rfl ?_
  · refine K_bipush (q := 17) (v := -2) dX12_node_15 rfl rfl ?_
    exact J_iret dX12_node_17
  · refine K_iload_n (q := 9) 2 dX12_node_8 rfl rfl rfl ?_
    refine K_csi (q := 12) [.inl (l2)] dX12_node_9 cb_X12_isLine cvRX12_140 rfl (Nat.le_of_ble_eq_true rfl) ⟨by decide, by decide⟩ (Nat.le_of_ble_eq_true rfl) rfl (tX12_isLine l2 M1) rfl (fun v4 M3 => ?_)
    refine K_if_ne (q := 15) (tgt := 18) dX12_node_12 rfl ?_ rfl ?_
    · refine K_iload_n (q := 19) 1 dX12_node_18 rfl rfl rfl ?_
      refine K_iload_n (q := 20) 2 dX12_node_19 rfl rfl rfl ?_
      refine K_csi (q := 23) [.inl (l1), .inl (l2)] dX12_node_20 cb_X12_place cvRX12_61 rfl (Nat.le_of_ble_eq_true rfl) ⟨by decide, by decide⟩ (Nat.le_of_ble_eq_true rfl) rfl (tX12_place l1 l2 M3) rfl (fun v6 M5 => ?_)
      refine K_istore (q := 25) (ll' := [(4, .inl (v6)), (0, .inr (17, 0, 200)), (1, .inl (l1)), (2, .inl (l2)), (3, .inl (l3))]) dX12_node_23 (by decide) rfl rfl ?_
      refine K_iload_n (q := 26) 4 dX12_node_25 rfl rfl rfl ?_
      refine K_tsw (dt := 177) [68, 79, 90, 101, 131, 138, 160] dX12_node_26 rfl rfl rfl rfl ⟨?_, ?_, ?_, ?_, ?_, ?_, ?_, trivial⟩ ?_
      · refine K_aload_n (q := 69) 1 dX12_node_68 rfl rfl rfl ?_
        refine K_getR (q := 72) (ci := 7) (a2 := 201) 0 dX12_node_69 fRX12_9 rfl rfl (by decide) rfl rfl ?_
        refine K_bipush (q := 74) (v := nI 14) dX12_node_72 rfl rfl ?_
        refine K_iload (q := 76) 0 dX12_node_74 rfl rfl ?_
        refine K_iadd (q := 77) dX12_node_76 rfl ?_
        refine K_iald (q := 78) dX12_node_77 rfl (fun v7 => ?_)
        exact J_iret dX12_node_78
      · refine K_aload_n (q := 80) 1 dX12_node_79 rfl rfl rfl ?_
        refine K_getR (q := 83) (ci := 7) (a2 := 201) 0 dX12_node_80 fRX12_9 rfl rfl (by decide) rfl rfl ?_
        refine K_bipush (q := 85) (v := nI 70) dX12_node_83 rfl rfl ?_
        refine K_iload (q := 87) 0 dX12_node_85 rfl rfl ?_
        refine K_iadd (q := 88) dX12_node_87 rfl ?_
        refine K_iald (q := 89) dX12_node_88 rfl (fun v8 => ?_)
        exact J_iret dX12_node_89
      · refine K_aload_n (q := 91) 1 dX12_node_90 rfl rfl rfl ?_
        refine K_getR (q := 94) (ci := 7) (a2 := 201) 0 dX12_node_91 fRX12_9 rfl rfl (by decide) rfl rfl ?_
        refine K_bipush (q := 96) (v := nI 126) dX12_node_94 rfl rfl ?_
        refine K_iload (q := 98) 0 dX12_node_96 rfl rfl ?_
        refine K_iadd (q := 99) dX12_node_98 rfl ?_
        refine K_iald (q := 100) dX12_node_99 rfl (fun v9 => ?_)
        exact J_iret dX12_node_100
      · refine K_aload_n (q := 102) 1 dX12_node_101 rfl rfl rfl ?_
        refine K_getR (q := 105) (ci := 7) (a2 := 201) 0 dX12_node_102 fRX12_9 rfl rfl (by decide) rfl rfl ?_
        refine K_bipush (q := 107) (v := nI 126) dX12_node_105 rfl rfl ?_
        refine K_iload (q := 109) 0 dX12_node_107 rfl rfl ?_
        refine K_iadd (q := 110) dX12_node_109 rfl ?_
        refine K_iald (q := 111) dX12_node_110 rfl (fun v10 => ?_)
        refine K_iconst (q := 112) (v := nI 1) dX12_node_111 rfl rfl ?_
        refine K_icmp_ne (q := 115) (tgt := 129) dX12_node_112 rfl ?_ rfl ?_
        · refine K_iconst (q := 130) (v := -1) dX12_node_129 rfl rfl ?_
          exact J_iret dX12_node_130
        · refine K_aload_n (q := 116) 1 dX12_node_115 rfl rfl rfl ?_
          refine K_getR (q := 119) (ci := 7) (a2 := 201) 0 dX12_node_116 fRX12_9 rfl rfl (by decide) rfl rfl ?_
          refine K_sipush (q := 122) (v := nI 182) dX12_node_119 rfl rfl ?_
          refine K_iload (q := 124) 0 dX12_node_122 rfl rfl ?_
          refine K_iadd (q := 125) dX12_node_124 rfl ?_
          refine K_iald (q := 126) dX12_node_125 rfl (fun v11 => ?_)
          refine J_goto (tgt := 130) dX12_node_126 rfl ?_
          exact J_iret dX12_node_130
      · refine K_aload_n (q := 132) 1 dX12_node_131 rfl rfl rfl ?_
        refine K_iload_n (q := 133) 2 dX12_node_132 rfl rfl rfl ?_
        refine K_iload_n (q := 134) 3 dX12_node_133 rfl rfl rfl ?_
        refine K_cvi (q := 137) [.inl (l1), .inl (l2)] dX12_node_134 cb_X12_turn cvRX12_112 rc_7 (show (17 : Nat) ≠ 0 by decide) rfl (Nat.le_of_ble_eq_true rfl) ⟨by decide, by decide⟩ (Nat.le_of_ble_eq_true rfl) rfl (tX12_turn l1 l2 M5) rfl (fun v13 M12 => ?_)
        exact J_iret dX12_node_137
      · refine K_iload_n (q := 139) 2 dX12_node_138 rfl rfl rfl ?_
        refine K_bipush (q := 141) (v := nI 6) dX12_node_139 rfl rfl ?_
        refine K_icmp_ne (q := 144) (tgt := 148) dX12_node_141 rfl ?_ rfl ?_
        · refine K_aload_n (q := 149) 1 dX12_node_148 rfl rfl rfl ?_
          refine K_getR (q := 152) (ci := 7) (a2 := 201) 0 dX12_node_149 fRX12_9 rfl rfl (by decide) rfl rfl ?_
          refine K_sipush (q := 155) (v := nI 538) dX12_node_152 rfl rfl ?_
          refine K_iload (q := 157) 0 dX12_node_155 rfl rfl ?_
          refine K_iadd (q := 158) dX12_node_157 rfl ?_
          refine K_iald (q := 159) dX12_node_158 rfl (fun v14 => ?_)
          exact J_iret dX12_node_159
        · refine K_iconst (q := 145) (v := -1) dX12_node_144 rfl rfl ?_
          refine J_goto (tgt := 159) dX12_node_145 rfl ?_
          exact J_iret dX12_node_159
      · refine K_iload_n (q := 161) 2 dX12_node_160 rfl rfl rfl ?_
        refine K_bipush (q := 163) (v := nI 6) dX12_node_161 rfl rfl ?_
        refine K_icmp_ne (q := 166) (tgt := 170) dX12_node_163 rfl ?_ rfl ?_
        · refine K_aload_n (q := 171) 1 dX12_node_170 rfl rfl rfl ?_
          refine K_iload_n (q := 172) 2 dX12_node_171 rfl rfl rfl ?_
          refine K_iload_n (q := 173) 3 dX12_node_172 rfl rfl rfl ?_
          refine K_cvi (q := 176) [.inl (l1), .inl (l2)] dX12_node_173 cb_X12_usedAt cvRX12_98 rc_7 (show (17 : Nat) ≠ 0 by decide) rfl (Nat.le_of_ble_eq_true rfl) ⟨by decide, by decide⟩ (Nat.le_of_ble_eq_true rfl) rfl (tX12_usedAt l1 l2 M5) rfl (fun v16 M15 => ?_)
          exact J_iret dX12_node_176
        · refine K_iconst (q := 167) (v := -1) dX12_node_166 rfl rfl ?_
          refine J_goto (tgt := 176) dX12_node_167 rfl ?_
          exact J_iret dX12_node_176
      · refine K_bipush (q := 179) (v := -2) dX12_node_177 rfl rfl ?_
        exact J_iret dX12_node_179
    · refine K_bipush (q := 17) (v := -2) dX12_node_15 rfl rfl ?_
      exact J_iret dX12_node_17
theorem dX12_program_0 : decode cX12_program 0 = .ok (.iload_n 1, 1) := by decide +kernel
theorem dX12_program_1 : decode cX12_program 1 = .ok (.iconst 0, 1) := by decide +kernel
theorem dX12_program_2 : decode cX12_program 2 = .ok (.iconst 5, 1) := by decide +kernel
theorem dX12_program_3 : decode cX12_program 3 = .ok (.invokestatic 65, 3) := by decide +kernel
theorem dX12_program_6 : decode cX12_program 6 = .ok (.ifCond .ne 5, 3) := by decide +kernel
theorem dX12_program_9 : decode cX12_program 9 = .ok (.iconst (-1), 1) := by decide +kernel
theorem dX12_program_10 : decode cX12_program 10 = .ok (.ireturn, 1) := by decide +kernel
theorem dX12_program_11 : decode cX12_program 11 = .ok (.iload_n 2, 1) := by decide +kernel
theorem dX12_program_12 : decode cX12_program 12 = .ok (.ifCond .ne 16, 3) := by decide +kernel
theorem dX12_program_15 : decode cX12_program 15 = .ok (.aload_n 0, 1) := by decide +kernel
theorem dX12_program_16 : decode cX12_program 16 = .ok (.getfield 9, 3) := by decide +kernel
theorem dX12_program_19 : decode cX12_program 19 = .ok (.sipush 3112, 3) := by decide +kernel
theorem dX12_program_22 : decode cX12_program 22 = .ok (.iload_n 1, 1) := by decide +kernel
theorem dX12_program_23 : decode cX12_program 23 = .ok (.iadd, 1) := by decide +kernel
theorem dX12_program_24 : decode cX12_program 24 = .ok (.iaload, 1) := by decide +kernel
theorem dX12_program_25 : decode cX12_program 25 = .ok (.goto 40, 3) := by decide +kernel
theorem dX12_program_28 : decode cX12_program 28 = .ok (.iload_n 2, 1) := by decide +kernel
theorem dX12_program_29 : decode cX12_program 29 = .ok (.iconst 1, 1) := by decide +kernel
theorem dX12_program_30 : decode cX12_program 30 = .ok (.if_icmp .ne 16, 3) := by decide +kernel
theorem dX12_program_33 : decode cX12_program 33 = .ok (.aload_n 0, 1) := by decide +kernel
theorem dX12_program_34 : decode cX12_program 34 = .ok (.getfield 9, 3) := by decide +kernel
theorem dX12_program_37 : decode cX12_program 37 = .ok (.sipush 3118, 3) := by decide +kernel
theorem dX12_program_40 : decode cX12_program 40 = .ok (.iload_n 1, 1) := by decide +kernel
theorem dX12_program_41 : decode cX12_program 41 = .ok (.iadd, 1) := by decide +kernel
theorem dX12_program_42 : decode cX12_program 42 = .ok (.iaload, 1) := by decide +kernel
theorem dX12_program_43 : decode cX12_program 43 = .ok (.goto 22, 3) := by decide +kernel
theorem dX12_program_46 : decode cX12_program 46 = .ok (.iload_n 2, 1) := by decide +kernel
theorem dX12_program_47 : decode cX12_program 47 = .ok (.iconst 2, 1) := by decide +kernel
theorem dX12_program_48 : decode cX12_program 48 = .ok (.if_icmp .ne 16, 3) := by decide +kernel
theorem dX12_program_51 : decode cX12_program 51 = .ok (.aload_n 0, 1) := by decide +kernel
theorem dX12_program_52 : decode cX12_program 52 = .ok (.getfield 9, 3) := by decide +kernel
theorem dX12_program_55 : decode cX12_program 55 = .ok (.sipush 3124, 3) := by decide +kernel
theorem dX12_program_58 : decode cX12_program 58 = .ok (.iload_n 1, 1) := by decide +kernel
theorem dX12_program_59 : decode cX12_program 59 = .ok (.iadd, 1) := by decide +kernel
theorem dX12_program_60 : decode cX12_program 60 = .ok (.iaload, 1) := by decide +kernel
theorem dX12_program_61 : decode cX12_program 61 = .ok (.goto 4, 3) := by decide +kernel
theorem dX12_program_64 : decode cX12_program 64 = .ok (.iconst (-1), 1) := by decide +kernel
theorem dX12_program_65 : decode cX12_program 65 = .ok (.ireturn, 1) := by decide +kernel
def xX12_program  (l1 : Int32) (l2 : Int32) (M : j_M) : Option (Int32 × j_M) := obi (xX12_isIn l1 (nI 0) (nI 5) M) fun v2 M1 => (if v2 = (0 : Int32) then some ((-1 : Int32), M1) else (if l2 = (0 : Int32) then gd ((nI 3112) + l1) 7460 (oli (M1 201 (ix ((nI 3112) + l1))) fun v5 => some (v5, M1)) else (if l2 = (nI 1) then gd ((nI 3118) + l1) 7460 (oli (M1 201 (ix ((nI 3118) + l1))) fun v4 => some (v4, M1)) else (if l2 = (nI 2) then gd ((nI 3124) + l1) 7460 (oli (M1 201 (ix ((nI 3124) + l1))) fun v3 => some (v3, M1)) else some ((-1 : Int32), M1)))))
set_option maxRecDepth 20000 in
set_option maxHeartbeats 2000000 in
theorem tX12_program  (l1 : Int32) (l2 : Int32) (M : j_M) : J (ρ := Int32 × j_M) yX12_program cX12_program 3 (some .int) 1 22 j_ei 0 [(0, .inr (17, 0, 200)), (1, .inl (l1)), (2, .inl (l2))] [] M (xX12_program  l1 l2 M) := by
  unfold xX12_program
  refine K_iload_n (q := 1) 1 dX12_program_0 rfl rfl rfl ?_
  refine K_iconst (q := 2) (v := nI 0) dX12_program_1 rfl rfl ?_
  refine K_iconst (q := 3) (v := nI 5) dX12_program_2 rfl rfl ?_
  refine K_csi (q := 6) [.inl (l1), .inl ((nI 0)), .inl ((nI 5))] dX12_program_3 cb_X12_isIn cvRX12_65 rfl (Nat.le_of_ble_eq_true rfl) ⟨by decide, by decide⟩ (Nat.le_of_ble_eq_true rfl) rfl (tX12_isIn l1 (nI 0) (nI 5) M) rfl (fun v2 M1 => ?_)
  refine K_if_ne (q := 9) (tgt := 11) dX12_program_6 rfl ?_ rfl ?_
  · refine K_iload_n (q := 12) 2 dX12_program_11 rfl rfl rfl ?_
    refine K_if_ne (q := 15) (tgt := 28) dX12_program_12 rfl ?_ rfl ?_
    · refine K_iload_n (q := 29) 2 dX12_program_28 rfl rfl rfl ?_
      refine K_iconst (q := 30) (v := nI 1) dX12_program_29 rfl rfl ?_
      refine K_icmp_ne (q := 33) (tgt := 46) dX12_program_30 rfl ?_ rfl ?_
      · refine K_iload_n (q := 47) 2 dX12_program_46 rfl rfl rfl ?_
        refine K_iconst (q := 48) (v := nI 2) dX12_program_47 rfl rfl ?_
        refine K_icmp_ne (q := 51) (tgt := 64) dX12_program_48 rfl ?_ rfl ?_
        · refine K_iconst (q := 65) (v := -1) dX12_program_64 rfl rfl ?_
          exact J_iret dX12_program_65
        · refine K_aload_n (q := 52) 0 dX12_program_51 rfl rfl rfl ?_
          refine K_getR (q := 55) (ci := 7) (a2 := 201) 0 dX12_program_52 fRX12_9 rfl rfl (by decide) rfl rfl ?_
          refine K_sipush (q := 58) (v := nI 3124) dX12_program_55 rfl rfl ?_
          refine K_iload_n (q := 59) 1 dX12_program_58 rfl rfl rfl ?_
          refine K_iadd (q := 60) dX12_program_59 rfl ?_
          refine K_iald (q := 61) dX12_program_60 rfl (fun v3 => ?_)
          refine J_goto (tgt := 65) dX12_program_61 rfl ?_
          exact J_iret dX12_program_65
      · refine K_aload_n (q := 34) 0 dX12_program_33 rfl rfl rfl ?_
        refine K_getR (q := 37) (ci := 7) (a2 := 201) 0 dX12_program_34 fRX12_9 rfl rfl (by decide) rfl rfl ?_
        refine K_sipush (q := 40) (v := nI 3118) dX12_program_37 rfl rfl ?_
        refine K_iload_n (q := 41) 1 dX12_program_40 rfl rfl rfl ?_
        refine K_iadd (q := 42) dX12_program_41 rfl ?_
        refine K_iald (q := 43) dX12_program_42 rfl (fun v4 => ?_)
        refine J_goto (tgt := 65) dX12_program_43 rfl ?_
        exact J_iret dX12_program_65
    · refine K_aload_n (q := 16) 0 dX12_program_15 rfl rfl rfl ?_
      refine K_getR (q := 19) (ci := 7) (a2 := 201) 0 dX12_program_16 fRX12_9 rfl rfl (by decide) rfl rfl ?_
      refine K_sipush (q := 22) (v := nI 3112) dX12_program_19 rfl rfl ?_
      refine K_iload_n (q := 23) 1 dX12_program_22 rfl rfl rfl ?_
      refine K_iadd (q := 24) dX12_program_23 rfl ?_
      refine K_iald (q := 25) dX12_program_24 rfl (fun v5 => ?_)
      refine J_goto (tgt := 65) dX12_program_25 rfl ?_
      exact J_iret dX12_program_65
  · refine K_iconst (q := 10) (v := -1) dX12_program_9 rfl rfl ?_
    exact J_iret dX12_program_10
theorem dX12_deliversSome_0 : decode cX12_deliversSome 0 = .ok (.iconst 0, 1) := by decide +kernel
theorem dX12_deliversSome_1 : decode cX12_deliversSome 1 = .ok (.istore_n 3, 1) := by decide +kernel
theorem dX12_deliversSome_2 : decode cX12_deliversSome 2 = .ok (.iload_n 3, 1) := by decide +kernel
theorem dX12_deliversSome_3 : decode cX12_deliversSome 3 = .ok (.iload_n 1, 1) := by decide +kernel
theorem dX12_deliversSome_4 : decode cX12_deliversSome 4 = .ok (.if_icmp .ge 41, 3) := by decide +kernel
theorem dX12_deliversSome_7 : decode cX12_deliversSome 7 = .ok (.aload_n 0, 1) := by decide +kernel
theorem dX12_deliversSome_8 : decode cX12_deliversSome 8 = .ok (.getfield 9, 3) := by decide +kernel
theorem dX12_deliversSome_11 : decode cX12_deliversSome 11 = .ok (.bipush 7, 2) := by decide +kernel
theorem dX12_deliversSome_13 : decode cX12_deliversSome 13 = .ok (.iaload, 1) := by decide +kernel
theorem dX12_deliversSome_14 : decode cX12_deliversSome 14 = .ok (.ifCond .le 31, 3) := by decide +kernel
theorem dX12_deliversSome_17 : decode cX12_deliversSome 17 = .ok (.aload_n 0, 1) := by decide +kernel
theorem dX12_deliversSome_18 : decode cX12_deliversSome 18 = .ok (.iload_n 2, 1) := by decide +kernel
theorem dX12_deliversSome_19 : decode cX12_deliversSome 19 = .ok (.ifCond .eq 15, 3) := by decide +kernel
theorem dX12_deliversSome_22 : decode cX12_deliversSome 22 = .ok (.aload_n 0, 1) := by decide +kernel
theorem dX12_deliversSome_23 : decode cX12_deliversSome 23 = .ok (.getfield 9, 3) := by decide +kernel
theorem dX12_deliversSome_26 : decode cX12_deliversSome 26 = .ok (.bipush 7, 2) := by decide +kernel
theorem dX12_deliversSome_28 : decode cX12_deliversSome 28 = .ok (.iaload, 1) := by decide +kernel
theorem dX12_deliversSome_29 : decode cX12_deliversSome 29 = .ok (.iconst 1, 1) := by decide +kernel
theorem dX12_deliversSome_30 : decode cX12_deliversSome 30 = .ok (.isub, 1) := by decide +kernel
theorem dX12_deliversSome_31 : decode cX12_deliversSome 31 = .ok (.goto 4, 3) := by decide +kernel
theorem dX12_deliversSome_34 : decode cX12_deliversSome 34 = .ok (.iconst 0, 1) := by decide +kernel
theorem dX12_deliversSome_35 : decode cX12_deliversSome 35 = .ok (.invokevirtual 178, 3) := by decide +kernel
theorem dX12_deliversSome_38 : decode cX12_deliversSome 38 = .ok (.pop, 1) := by decide +kernel
theorem dX12_deliversSome_39 : decode cX12_deliversSome 39 = .ok (.iinc 3 1, 3) := by decide +kernel
theorem dX12_deliversSome_42 : decode cX12_deliversSome 42 = .ok (.goto (-40), 3) := by decide +kernel
theorem dX12_deliversSome_45 : decode cX12_deliversSome 45 = .ok (.iload_n 3, 1) := by decide +kernel
theorem dX12_deliversSome_46 : decode cX12_deliversSome 46 = .ok (.ifCond .le 7, 3) := by decide +kernel
theorem dX12_deliversSome_49 : decode cX12_deliversSome 49 = .ok (.iconst 1, 1) := by decide +kernel
theorem dX12_deliversSome_50 : decode cX12_deliversSome 50 = .ok (.goto 4, 3) := by decide +kernel
theorem dX12_deliversSome_53 : decode cX12_deliversSome 53 = .ok (.iconst 0, 1) := by decide +kernel
theorem dX12_deliversSome_54 : decode cX12_deliversSome 54 = .ok (.ireturn, 1) := by decide +kernel
def xX12_deliversSome_45   (l3 : Int32) (M : j_M) : Option (Int32 × j_M) := (if l3 ≤ (0 : Int32) then some ((nI 0), M) else some ((nI 1), M))
set_option maxRecDepth 20000 in
set_option maxHeartbeats 2000000 in
theorem tX12_deliversSome_45    (l3 : Int32) (M : j_M) : J (ρ := Int32 × j_M) yX12_deliversSome cX12_deliversSome 4 (some .boolean) 8 189 j_ei 45 [(3, .inl (l3))] [] M (xX12_deliversSome_45  l3 M) := by
  unfold xX12_deliversSome_45
  refine K_iload_n (q := 46) 0 dX12_deliversSome_45 rfl rfl rfl ?_
  refine K_if_le (q := 49) (tgt := 53) dX12_deliversSome_46 rfl ?_ rfl ?_
  · refine K_iconst (q := 54) (v := nI 0) dX12_deliversSome_53 rfl rfl ?_
    exact J_zret dX12_deliversSome_54 (by decide)
  · refine K_iconst (q := 50) (v := nI 1) dX12_deliversSome_49 rfl rfl ?_
    refine J_goto (tgt := 54) dX12_deliversSome_50 rfl ?_
    exact J_zret dX12_deliversSome_54 (by decide)
def xX12_deliversSome_35 (k2 : Int32 → Int32 → Int32 → j_M → Option (Int32 × j_M))  (l1 : Int32) (l2 : Int32) (l3 : Int32) (s0 : Int32) (M : j_M) : Option (Int32 × j_M) := obi (xX12_delivers s0 M) fun v2 M1 => k2 l1 l2 (l3 + (nI 1)) M1
set_option maxRecDepth 20000 in
set_option maxHeartbeats 2000000 in
theorem tX12_deliversSome_35 (k2 : Int32 → Int32 → Int32 → j_M → Option (Int32 × j_M))  (hk2 : ∀ (l1 : Int32) (l2 : Int32) (l3 : Int32) (M : j_M), J (ρ := Int32 × j_M) yX12_deliversSome cX12_deliversSome 4 (some .boolean) 8 189 j_ei 2 [(0, .inr (17, 0, 200)), (1, .inl (l1)), (2, .inl (l2)), (3, .inl (l3))] [] M (k2 l1 l2 l3 M)) (l1 : Int32) (l2 : Int32) (l3 : Int32) (s0 : Int32) (M : j_M) : J (ρ := Int32 × j_M) yX12_deliversSome cX12_deliversSome 4 (some .boolean) 8 189 j_ei 35 [(0, .inr (17, 0, 200)), (1, .inl (l1)), (2, .inl (l2)), (3, .inl (l3))] [.inl (s0), .inr (17, 0, 200)] M (xX12_deliversSome_35 k2 l1 l2 l3 s0 M) := by
  unfold xX12_deliversSome_35
  refine K_cvi (q := 38) [.inl (s0)] dX12_deliversSome_35 cb_X12_delivers cvRX12_178 rc_7 (show (17 : Nat) ≠ 0 by decide) rfl (Nat.le_of_ble_eq_true rfl) ⟨by decide, by decide⟩ (Nat.le_of_ble_eq_true rfl) rfl (tX12_delivers s0 M) rfl (fun v2 M1 => ?_)
  refine K_pop (q := 39) dX12_deliversSome_38 rfl ?_
  refine K_iinc (q := 42) (v := l3 + (nI 1)) (ll' := [(3, .inl (l3 + (nI 1))), (0, .inr (17, 0, 200)), (1, .inl (l1)), (2, .inl (l2))]) 3 dX12_deliversSome_39 rfl rfl (by decide) rfl rfl ?_
  refine J_goto (tgt := 2) dX12_deliversSome_42 rfl ?_
  exact J_sub [1, 2, 3, 0] (hk2 l1 l2 (l3 + (nI 1)) M1) rfl
def xX12_deliversSome_2   : Nat → Int32 → Int32 → Int32 → j_M → Option (Int32 × j_M)
  | 0, _, _, _, _ => none
  | n + 1, l1, l2, l3, M => (if l1 ≤ l3 then xX12_deliversSome_45  l3 M else gd (nI 7) 7460 (oli (M 201 (ix (nI 7))) fun v1 => (if v1 ≤ (0 : Int32) then xX12_deliversSome_45  l3 M else (if l2 = (0 : Int32) then xX12_deliversSome_35 (xX12_deliversSome_2  n) l1 l2 l3 (nI 0) M else gd (nI 7) 7460 (oli (M 201 (ix (nI 7))) fun v2 => xX12_deliversSome_35 (xX12_deliversSome_2  n) l1 l2 l3 (v2 - (nI 1)) M)))))
set_option maxRecDepth 20000 in
set_option maxHeartbeats 2000000 in
theorem tX12_deliversSome_2    : ∀ (n : Nat) (l1 : Int32) (l2 : Int32) (l3 : Int32) (M : j_M), J (ρ := Int32 × j_M) yX12_deliversSome cX12_deliversSome 4 (some .boolean) 8 189 j_ei 2 [(0, .inr (17, 0, 200)), (1, .inl (l1)), (2, .inl (l2)), (3, .inl (l3))] [] M (xX12_deliversSome_2  n l1 l2 l3 M) := by
  intro n
  induction n with
  | zero => intros; exact J_none
  | succ n ih =>
    intro l1 l2 l3 M
    rw [xX12_deliversSome_2.eq_2]
    refine K_iload_n (q := 3) 3 dX12_deliversSome_2 rfl rfl rfl ?_
    refine K_iload_n (q := 4) 1 dX12_deliversSome_3 rfl rfl rfl ?_
    refine K_icmp_ge (q := 7) (tgt := 45) dX12_deliversSome_4 rfl ?_ rfl ?_
    · exact J_sub [3] (tX12_deliversSome_45  l3 M) rfl
    · refine K_aload_n (q := 8) 0 dX12_deliversSome_7 rfl rfl rfl ?_
      refine K_getR (q := 11) (ci := 7) (a2 := 201) 0 dX12_deliversSome_8 fRX12_9 rfl rfl (by decide) rfl rfl ?_
      refine K_bipush (q := 13) (v := nI 7) dX12_deliversSome_11 rfl rfl ?_
      refine K_iald (q := 14) dX12_deliversSome_13 rfl (fun v1 => ?_)
      refine K_if_le (q := 17) (tgt := 45) dX12_deliversSome_14 rfl ?_ rfl ?_
      · exact J_sub [3] (tX12_deliversSome_45  l3 M) rfl
      · refine K_aload_n (q := 18) 0 dX12_deliversSome_17 rfl rfl rfl ?_
        refine K_iload_n (q := 19) 2 dX12_deliversSome_18 rfl rfl rfl ?_
        refine K_if_eq (q := 22) (tgt := 34) dX12_deliversSome_19 rfl ?_ rfl ?_
        · refine K_iconst (q := 35) (v := nI 0) dX12_deliversSome_34 rfl rfl ?_
          exact J_sub [0, 1, 2, 3] (tX12_deliversSome_35 (xX12_deliversSome_2  n) ih l1 l2 l3 (nI 0) M) rfl
        · refine K_aload_n (q := 23) 0 dX12_deliversSome_22 rfl rfl rfl ?_
          refine K_getR (q := 26) (ci := 7) (a2 := 201) 0 dX12_deliversSome_23 fRX12_9 rfl rfl (by decide) rfl rfl ?_
          refine K_bipush (q := 28) (v := nI 7) dX12_deliversSome_26 rfl rfl ?_
          refine K_iald (q := 29) dX12_deliversSome_28 rfl (fun v2 => ?_)
          refine K_iconst (q := 30) (v := nI 1) dX12_deliversSome_29 rfl rfl ?_
          refine K_isub (q := 31) dX12_deliversSome_30 rfl ?_
          refine J_goto (tgt := 35) dX12_deliversSome_31 rfl ?_
          exact J_sub [0, 1, 2, 3] (tX12_deliversSome_35 (xX12_deliversSome_2  n) ih l1 l2 l3 (v2 - (nI 1)) M) rfl
def xX12_deliversSome  (l1 : Int32) (l2 : Int32) (M : j_M) : Option (Int32 × j_M) := xX12_deliversSome_2 fu l1 l2 (nI 0) M
set_option maxRecDepth 20000 in
set_option maxHeartbeats 2000000 in
theorem tX12_deliversSome  (l1 : Int32) (l2 : Int32) (M : j_M) : J (ρ := Int32 × j_M) yX12_deliversSome cX12_deliversSome 4 (some .boolean) 8 189 j_ei 0 [(0, .inr (17, 0, 200)), (1, .inl (l1)), (2, .inl (l2))] [] M (xX12_deliversSome  l1 l2 M) := by
  unfold xX12_deliversSome
  refine K_iconst (q := 1) (v := nI 0) dX12_deliversSome_0 rfl rfl ?_
  refine K_istore_n (q := 2) (ll' := [(3, .inl ((nI 0))), (0, .inr (17, 0, 200)), (1, .inl (l1)), (2, .inl (l2))]) dX12_deliversSome_1 rfl (by decide) rfl rfl ?_
  exact J_sub [1, 2, 3, 0] (tX12_deliversSome_2 fu l1 l2 (nI 0) M) rfl
theorem dX12_isDone_0 : decode cX12_isDone 0 = .ok (.aload_n 0, 1) := by decide +kernel
theorem dX12_isDone_1 : decode cX12_isDone 1 = .ok (.getfield 9, 3) := by decide +kernel
theorem dX12_isDone_4 : decode cX12_isDone 4 = .ok (.iload_n 1, 1) := by decide +kernel
theorem dX12_isDone_5 : decode cX12_isDone 5 = .ok (.iconst 1, 1) := by decide +kernel
theorem dX12_isDone_6 : decode cX12_isDone 6 = .ok (.iadd, 1) := by decide +kernel
theorem dX12_isDone_7 : decode cX12_isDone 7 = .ok (.iaload, 1) := by decide +kernel
theorem dX12_isDone_8 : decode cX12_isDone 8 = .ok (.istore_n 2, 1) := by decide +kernel
theorem dX12_isDone_9 : decode cX12_isDone 9 = .ok (.aload_n 0, 1) := by decide +kernel
theorem dX12_isDone_10 : decode cX12_isDone 10 = .ok (.getfield 9, 3) := by decide +kernel
theorem dX12_isDone_13 : decode cX12_isDone 13 = .ok (.iload_n 1, 1) := by decide +kernel
theorem dX12_isDone_14 : decode cX12_isDone 14 = .ok (.iconst 2, 1) := by decide +kernel
theorem dX12_isDone_15 : decode cX12_isDone 15 = .ok (.iadd, 1) := by decide +kernel
theorem dX12_isDone_16 : decode cX12_isDone 16 = .ok (.iaload, 1) := by decide +kernel
theorem dX12_isDone_17 : decode cX12_isDone 17 = .ok (.istore_n 3, 1) := by decide +kernel
theorem dX12_isDone_18 : decode cX12_isDone 18 = .ok (.aload_n 0, 1) := by decide +kernel
theorem dX12_isDone_19 : decode cX12_isDone 19 = .ok (.getfield 9, 3) := by decide +kernel
theorem dX12_isDone_22 : decode cX12_isDone 22 = .ok (.iload_n 1, 1) := by decide +kernel
theorem dX12_isDone_23 : decode cX12_isDone 23 = .ok (.iaload, 1) := by decide +kernel
theorem dX12_isDone_24 : decode cX12_isDone 24 = .ok (.tableswitch 192 3 13 #[60, 77, 101, 192, 192, 125, 132, 139, 146, 161, 176], 60) := by decide +kernel
theorem dX12_isDone_84 : decode cX12_isDone 84 = .ok (.aload_n 0, 1) := by decide +kernel
theorem dX12_isDone_85 : decode cX12_isDone 85 = .ok (.iload_n 2, 1) := by decide +kernel
theorem dX12_isDone_86 : decode cX12_isDone 86 = .ok (.iload_n 3, 1) := by decide +kernel
theorem dX12_isDone_87 : decode cX12_isDone 87 = .ok (.invokevirtual 313, 3) := by decide +kernel
theorem dX12_isDone_90 : decode cX12_isDone 90 = .ok (.bipush (-2), 2) := by decide +kernel
theorem dX12_isDone_92 : decode cX12_isDone 92 = .ok (.if_icmp .le 7, 3) := by decide +kernel
theorem dX12_isDone_95 : decode cX12_isDone 95 = .ok (.iconst 1, 1) := by decide +kernel
theorem dX12_isDone_96 : decode cX12_isDone 96 = .ok (.goto 4, 3) := by decide +kernel
theorem dX12_isDone_99 : decode cX12_isDone 99 = .ok (.iconst 0, 1) := by decide +kernel
theorem dX12_isDone_100 : decode cX12_isDone 100 = .ok (.ireturn, 1) := by decide +kernel
theorem dX12_isDone_101 : decode cX12_isDone 101 = .ok (.aload_n 0, 1) := by decide +kernel
theorem dX12_isDone_102 : decode cX12_isDone 102 = .ok (.iload_n 2, 1) := by decide +kernel
theorem dX12_isDone_103 : decode cX12_isDone 103 = .ok (.iload_n 3, 1) := by decide +kernel
theorem dX12_isDone_104 : decode cX12_isDone 104 = .ok (.aload_n 0, 1) := by decide +kernel
theorem dX12_isDone_105 : decode cX12_isDone 105 = .ok (.getfield 9, 3) := by decide +kernel
theorem dX12_isDone_108 : decode cX12_isDone 108 = .ok (.iload_n 1, 1) := by decide +kernel
theorem dX12_isDone_109 : decode cX12_isDone 109 = .ok (.iconst 3, 1) := by decide +kernel
theorem dX12_isDone_110 : decode cX12_isDone 110 = .ok (.iadd, 1) := by decide +kernel
theorem dX12_isDone_111 : decode cX12_isDone 111 = .ok (.iaload, 1) := by decide +kernel
theorem dX12_isDone_112 : decode cX12_isDone 112 = .ok (.invokevirtual 315, 3) := by decide +kernel
theorem dX12_isDone_115 : decode cX12_isDone 115 = .ok (.iconst (-1), 1) := by decide +kernel
theorem dX12_isDone_116 : decode cX12_isDone 116 = .ok (.if_icmp .eq 7, 3) := by decide +kernel
theorem dX12_isDone_119 : decode cX12_isDone 119 = .ok (.iconst 1, 1) := by decide +kernel
theorem dX12_isDone_120 : decode cX12_isDone 120 = .ok (.goto 4, 3) := by decide +kernel
theorem dX12_isDone_123 : decode cX12_isDone 123 = .ok (.iconst 0, 1) := by decide +kernel
theorem dX12_isDone_124 : decode cX12_isDone 124 = .ok (.ireturn, 1) := by decide +kernel
theorem dX12_isDone_125 : decode cX12_isDone 125 = .ok (.aload_n 0, 1) := by decide +kernel
theorem dX12_isDone_126 : decode cX12_isDone 126 = .ok (.iload_n 2, 1) := by decide +kernel
theorem dX12_isDone_127 : decode cX12_isDone 127 = .ok (.iload_n 3, 1) := by decide +kernel
theorem dX12_isDone_128 : decode cX12_isDone 128 = .ok (.aload_n 0, 1) := by decide +kernel
theorem dX12_isDone_129 : decode cX12_isDone 129 = .ok (.getfield 9, 3) := by decide +kernel
theorem dX12_isDone_132 : decode cX12_isDone 132 = .ok (.iload_n 1, 1) := by decide +kernel
theorem dX12_isDone_133 : decode cX12_isDone 133 = .ok (.iconst 3, 1) := by decide +kernel
theorem dX12_isDone_134 : decode cX12_isDone 134 = .ok (.iadd, 1) := by decide +kernel
theorem dX12_isDone_135 : decode cX12_isDone 135 = .ok (.iaload, 1) := by decide +kernel
theorem dX12_isDone_136 : decode cX12_isDone 136 = .ok (.invokevirtual 318, 3) := by decide +kernel
theorem dX12_isDone_139 : decode cX12_isDone 139 = .ok (.iconst (-1), 1) := by decide +kernel
theorem dX12_isDone_140 : decode cX12_isDone 140 = .ok (.if_icmp .eq 7, 3) := by decide +kernel
theorem dX12_isDone_143 : decode cX12_isDone 143 = .ok (.iconst 1, 1) := by decide +kernel
theorem dX12_isDone_144 : decode cX12_isDone 144 = .ok (.goto 4, 3) := by decide +kernel
theorem dX12_isDone_147 : decode cX12_isDone 147 = .ok (.iconst 0, 1) := by decide +kernel
theorem dX12_isDone_148 : decode cX12_isDone 148 = .ok (.ireturn, 1) := by decide +kernel
theorem dX12_isDone_149 : decode cX12_isDone 149 = .ok (.aload_n 0, 1) := by decide +kernel
theorem dX12_isDone_150 : decode cX12_isDone 150 = .ok (.iload_n 2, 1) := by decide +kernel
theorem dX12_isDone_151 : decode cX12_isDone 151 = .ok (.iload_n 3, 1) := by decide +kernel
theorem dX12_isDone_152 : decode cX12_isDone 152 = .ok (.invokevirtual 320, 3) := by decide +kernel
theorem dX12_isDone_155 : decode cX12_isDone 155 = .ok (.ireturn, 1) := by decide +kernel
theorem dX12_isDone_156 : decode cX12_isDone 156 = .ok (.aload_n 0, 1) := by decide +kernel
theorem dX12_isDone_157 : decode cX12_isDone 157 = .ok (.iload_n 2, 1) := by decide +kernel
theorem dX12_isDone_158 : decode cX12_isDone 158 = .ok (.iconst 0, 1) := by decide +kernel
theorem dX12_isDone_159 : decode cX12_isDone 159 = .ok (.invokevirtual 323, 3) := by decide +kernel
theorem dX12_isDone_162 : decode cX12_isDone 162 = .ok (.ireturn, 1) := by decide +kernel
theorem dX12_isDone_163 : decode cX12_isDone 163 = .ok (.aload_n 0, 1) := by decide +kernel
theorem dX12_isDone_164 : decode cX12_isDone 164 = .ok (.iload_n 2, 1) := by decide +kernel
theorem dX12_isDone_165 : decode cX12_isDone 165 = .ok (.iconst 1, 1) := by decide +kernel
theorem dX12_isDone_166 : decode cX12_isDone 166 = .ok (.invokevirtual 323, 3) := by decide +kernel
theorem dX12_isDone_169 : decode cX12_isDone 169 = .ok (.ireturn, 1) := by decide +kernel
theorem dX12_isDone_170 : decode cX12_isDone 170 = .ok (.aload_n 0, 1) := by decide +kernel
theorem dX12_isDone_171 : decode cX12_isDone 171 = .ok (.iload_n 2, 1) := by decide +kernel
theorem dX12_isDone_172 : decode cX12_isDone 172 = .ok (.invokevirtual 327, 3) := by decide +kernel
theorem dX12_isDone_175 : decode cX12_isDone 175 = .ok (.iconst (-1), 1) := by decide +kernel
theorem dX12_isDone_176 : decode cX12_isDone 176 = .ok (.if_icmp .eq 7, 3) := by decide +kernel
theorem dX12_isDone_179 : decode cX12_isDone 179 = .ok (.iconst 1, 1) := by decide +kernel
theorem dX12_isDone_180 : decode cX12_isDone 180 = .ok (.goto 4, 3) := by decide +kernel
theorem dX12_isDone_183 : decode cX12_isDone 183 = .ok (.iconst 0, 1) := by decide +kernel
theorem dX12_isDone_184 : decode cX12_isDone 184 = .ok (.ireturn, 1) := by decide +kernel
theorem dX12_isDone_185 : decode cX12_isDone 185 = .ok (.aload_n 0, 1) := by decide +kernel
theorem dX12_isDone_186 : decode cX12_isDone 186 = .ok (.iload_n 2, 1) := by decide +kernel
theorem dX12_isDone_187 : decode cX12_isDone 187 = .ok (.invokevirtual 329, 3) := by decide +kernel
theorem dX12_isDone_190 : decode cX12_isDone 190 = .ok (.iconst (-1), 1) := by decide +kernel
theorem dX12_isDone_191 : decode cX12_isDone 191 = .ok (.if_icmp .eq 7, 3) := by decide +kernel
theorem dX12_isDone_194 : decode cX12_isDone 194 = .ok (.iconst 1, 1) := by decide +kernel
theorem dX12_isDone_195 : decode cX12_isDone 195 = .ok (.goto 4, 3) := by decide +kernel
theorem dX12_isDone_198 : decode cX12_isDone 198 = .ok (.iconst 0, 1) := by decide +kernel
theorem dX12_isDone_199 : decode cX12_isDone 199 = .ok (.ireturn, 1) := by decide +kernel
theorem dX12_isDone_200 : decode cX12_isDone 200 = .ok (.aload_n 0, 1) := by decide +kernel
theorem dX12_isDone_201 : decode cX12_isDone 201 = .ok (.iload_n 2, 1) := by decide +kernel
theorem dX12_isDone_202 : decode cX12_isDone 202 = .ok (.iload_n 3, 1) := by decide +kernel
theorem dX12_isDone_203 : decode cX12_isDone 203 = .ok (.invokevirtual 331, 3) := by decide +kernel
theorem dX12_isDone_206 : decode cX12_isDone 206 = .ok (.iconst (-1), 1) := by decide +kernel
theorem dX12_isDone_207 : decode cX12_isDone 207 = .ok (.if_icmp .eq 7, 3) := by decide +kernel
theorem dX12_isDone_210 : decode cX12_isDone 210 = .ok (.iconst 1, 1) := by decide +kernel
theorem dX12_isDone_211 : decode cX12_isDone 211 = .ok (.goto 4, 3) := by decide +kernel
theorem dX12_isDone_214 : decode cX12_isDone 214 = .ok (.iconst 0, 1) := by decide +kernel
theorem dX12_isDone_215 : decode cX12_isDone 215 = .ok (.ireturn, 1) := by decide +kernel
theorem dX12_isDone_216 : decode cX12_isDone 216 = .ok (.aload_n 0, 1) := by decide +kernel
theorem dX12_isDone_217 : decode cX12_isDone 217 = .ok (.iconst 3, 1) := by decide +kernel
theorem dX12_isDone_218 : decode cX12_isDone 218 = .ok (.iload_n 2, 1) := by decide +kernel
theorem dX12_isDone_219 : decode cX12_isDone 219 = .ok (.invokevirtual 333, 3) := by decide +kernel
theorem dX12_isDone_222 : decode cX12_isDone 222 = .ok (.ireturn, 1) := by decide +kernel
def xX12_isDone  (l1 : Int32) (M : j_M) : Option (Int32 × j_M) := gd (l1 + (nI 1)) 7460 (oli (M 201 (ix (l1 + (nI 1)))) fun v1 => gd (l1 + (nI 2)) 7460 (oli (M 201 (ix (l1 + (nI 2)))) fun v2 => gd l1 7460 (oli (M 201 (ix l1)) fun v3 => osw v3 [((nI 3), obi (xX12_load v1 v2 M) fun v5 M4 => (if v5 ≤ (-2 : Int32) then some ((nI 0), M4) else some ((nI 1), M4))), ((nI 4), gd (l1 + (nI 3)) 7460 (oli (M 201 (ix (l1 + (nI 3)))) fun v6 => obi (xX12_store v1 v2 v6 M) fun v8 M7 => (if v8 = (-1 : Int32) then some ((nI 0), M7) else some ((nI 1), M7)))), ((nI 5), gd (l1 + (nI 3)) 7460 (oli (M 201 (ix (l1 + (nI 3)))) fun v9 => obi (xX12_add v1 v2 v9 M) fun v11 M10 => (if v11 = (-1 : Int32) then some ((nI 0), M10) else some ((nI 1), M10)))), ((nI 6), obi (xX12_set (nI 3) v1 M) fun v13 M12 => gz v13 (some (v13, M12))), ((nI 7), obi (xX12_set (nI 3) v1 M) fun v15 M14 => gz v15 (some (v15, M14))), ((nI 8), obi (xX12_evict v1 v2 M) fun v17 M16 => gz v17 (some (v17, M16))), ((nI 9), obi (xX12_deliversSome v1 (nI 0) M) fun v19 M18 => gz v19 (some (v19, M18))), ((nI 10), obi (xX12_deliversSome v1 (nI 1) M) fun v21 M20 => gz v21 (some (v21, M20))), ((nI 11), obi (xX12_tick v1 M) fun v23 M22 => (if v23 = (-1 : Int32) then some ((nI 0), M22) else some ((nI 1), M22))), ((nI 12), obi (xX12_calm v1 M) fun v25 M24 => (if v25 = (-1 : Int32) then some ((nI 0), M24) else some ((nI 1), M24))), ((nI 13), obi (xX12_go v1 v2 M) fun v27 M26 => (if v27 = (-1 : Int32) then some ((nI 0), M26) else some ((nI 1), M26)))] (obi (xX12_set (nI 3) v1 M) fun v29 M28 => gz v29 (some (v29, M28))))))
set_option maxRecDepth 20000 in
set_option maxHeartbeats 2000000 in
theorem tX12_isDone  (l1 : Int32) (M : j_M) : J (ρ := Int32 × j_M) yX12_isDone cX12_isDone 4 (some .boolean) 11 254 j_ei 0 [(0, .inr (17, 0, 200)), (1, .inl (l1))] [] M (xX12_isDone  l1 M) := by
  unfold xX12_isDone
  refine K_aload_n (q := 1) 0 dX12_isDone_0 rfl rfl rfl ?_
  refine K_getR (q := 4) (ci := 7) (a2 := 201) 0 dX12_isDone_1 fRX12_9 rfl rfl (by decide) rfl rfl ?_
  refine K_iload_n (q := 5) 1 dX12_isDone_4 rfl rfl rfl ?_
  refine K_iconst (q := 6) (v := nI 1) dX12_isDone_5 rfl rfl ?_
  refine K_iadd (q := 7) dX12_isDone_6 rfl ?_
  refine K_iald (q := 8) dX12_isDone_7 rfl (fun v1 => ?_)
  refine K_istore_n (q := 9) (ll' := [(2, .inl (v1)), (0, .inr (17, 0, 200)), (1, .inl (l1))]) dX12_isDone_8 rfl (by decide) rfl rfl ?_
  refine K_aload_n (q := 10) 1 dX12_isDone_9 rfl rfl rfl ?_
  refine K_getR (q := 13) (ci := 7) (a2 := 201) 0 dX12_isDone_10 fRX12_9 rfl rfl (by decide) rfl rfl ?_
  refine K_iload_n (q := 14) 2 dX12_isDone_13 rfl rfl rfl ?_
  refine K_iconst (q := 15) (v := nI 2) dX12_isDone_14 rfl rfl ?_
  refine K_iadd (q := 16) dX12_isDone_15 rfl ?_
  refine K_iald (q := 17) dX12_isDone_16 rfl (fun v2 => ?_)
  refine K_istore_n (q := 18) (ll' := [(3, .inl (v2)), (2, .inl (v1)), (0, .inr (17, 0, 200)), (1, .inl (l1))]) dX12_isDone_17 rfl (by decide) rfl rfl ?_
  refine K_aload_n (q := 19) 2 dX12_isDone_18 rfl rfl rfl ?_
  refine K_getR (q := 22) (ci := 7) (a2 := 201) 0 dX12_isDone_19 fRX12_9 rfl rfl (by decide) rfl rfl ?_
  refine K_iload_n (q := 23) 3 dX12_isDone_22 rfl rfl rfl ?_
  refine K_iald (q := 24) dX12_isDone_23 rfl (fun v3 => ?_)
  refine K_tsw (dt := 216) [84, 101, 125, 216, 216, 149, 156, 163, 170, 185, 200] dX12_isDone_24 rfl rfl rfl rfl ⟨?_, ?_, ?_, ?_, ?_, ?_, ?_, ?_, ?_, ?_, ?_, trivial⟩ ?_
  · refine K_aload_n (q := 85) 2 dX12_isDone_84 rfl rfl rfl ?_
    refine K_iload_n (q := 86) 1 dX12_isDone_85 rfl rfl rfl ?_
    refine K_iload_n (q := 87) 0 dX12_isDone_86 rfl rfl rfl ?_
    refine K_cvi (q := 90) [.inl (v1), .inl (v2)] dX12_isDone_87 cb_X12_load cvRX12_313 rc_7 (show (17 : Nat) ≠ 0 by decide) rfl (Nat.le_of_ble_eq_true rfl) ⟨by decide, by decide⟩ (Nat.le_of_ble_eq_true rfl) rfl (tX12_load v1 v2 M) rfl (fun v5 M4 => ?_)
    refine K_bipush (q := 92) (v := -2) dX12_isDone_90 rfl rfl ?_
    refine K_icmp_le (q := 95) (tgt := 99) dX12_isDone_92 rfl ?_ rfl ?_
    · refine K_iconst (q := 100) (v := nI 0) dX12_isDone_99 rfl rfl ?_
      exact J_zret dX12_isDone_100 (by decide)
    · refine K_iconst (q := 96) (v := nI 1) dX12_isDone_95 rfl rfl ?_
      refine J_goto (tgt := 100) dX12_isDone_96 rfl ?_
      exact J_zret dX12_isDone_100 (by decide)
  · refine K_aload_n (q := 102) 2 dX12_isDone_101 rfl rfl rfl ?_
    refine K_iload_n (q := 103) 1 dX12_isDone_102 rfl rfl rfl ?_
    refine K_iload_n (q := 104) 0 dX12_isDone_103 rfl rfl rfl ?_
    refine K_aload_n (q := 105) 2 dX12_isDone_104 rfl rfl rfl ?_
    refine K_getR (q := 108) (ci := 7) (a2 := 201) 0 dX12_isDone_105 fRX12_9 rfl rfl (by decide) rfl rfl ?_
    refine K_iload_n (q := 109) 3 dX12_isDone_108 rfl rfl rfl ?_
    refine K_iconst (q := 110) (v := nI 3) dX12_isDone_109 rfl rfl ?_
    refine K_iadd (q := 111) dX12_isDone_110 rfl ?_
    refine K_iald (q := 112) dX12_isDone_111 rfl (fun v6 => ?_)
    refine K_cvi (q := 115) [.inl (v1), .inl (v2), .inl (v6)] dX12_isDone_112 cb_X12_store cvRX12_315 rc_7 (show (17 : Nat) ≠ 0 by decide) rfl (Nat.le_of_ble_eq_true rfl) ⟨by decide, by decide⟩ (Nat.le_of_ble_eq_true rfl) rfl (tX12_store v1 v2 v6 M) rfl (fun v8 M7 => ?_)
    refine K_iconst (q := 116) (v := -1) dX12_isDone_115 rfl rfl ?_
    refine K_icmp_eq (q := 119) (tgt := 123) dX12_isDone_116 rfl ?_ rfl ?_
    · refine K_iconst (q := 124) (v := nI 0) dX12_isDone_123 rfl rfl ?_
      exact J_zret dX12_isDone_124 (by decide)
    · refine K_iconst (q := 120) (v := nI 1) dX12_isDone_119 rfl rfl ?_
      refine J_goto (tgt := 124) dX12_isDone_120 rfl ?_
      exact J_zret dX12_isDone_124 (by decide)
  · refine K_aload_n (q := 126) 2 dX12_isDone_125 rfl rfl rfl ?_
    refine K_iload_n (q := 127) 1 dX12_isDone_126 rfl rfl rfl ?_
    refine K_iload_n (q := 128) 0 dX12_isDone_127 rfl rfl rfl ?_
    refine K_aload_n (q := 129) 2 dX12_isDone_128 rfl rfl rfl ?_
    refine K_getR (q := 132) (ci := 7) (a2 := 201) 0 dX12_isDone_129 fRX12_9 rfl rfl (by decide) rfl rfl ?_
    refine K_iload_n (q := 133) 3 dX12_isDone_132 rfl rfl rfl ?_
    refine K_iconst (q := 134) (v := nI 3) dX12_isDone_133 rfl rfl ?_
    refine K_iadd (q := 135) dX12_isDone_134 rfl ?_
    refine K_iald (q := 136) dX12_isDone_135 rfl (fun v9 => ?_)
    refine K_cvi (q := 139) [.inl (v1), .inl (v2), .inl (v9)] dX12_isDone_136 cb_X12_add cvRX12_318 rc_7 (show (17 : Nat) ≠ 0 by decide) rfl (Nat.le_of_ble_eq_true rfl) ⟨by decide, by decide⟩ (Nat.le_of_ble_eq_true rfl) rfl (tX12_add v1 v2 v9 M) rfl (fun v11 M10 => ?_)
    refine K_iconst (q := 140) (v := -1) dX12_isDone_139 rfl rfl ?_
    refine K_icmp_eq (q := 143) (tgt := 147) dX12_isDone_140 rfl ?_ rfl ?_
    · refine K_iconst (q := 148) (v := nI 0) dX12_isDone_147 rfl rfl ?_
      exact J_zret dX12_isDone_148 (by decide)
    · refine K_iconst (q := 144) (v := nI 1) dX12_isDone_143 rfl rfl ?_
      refine J_goto (tgt := 148) dX12_isDone_144 rfl ?_
      exact J_zret dX12_isDone_148 (by decide)
  · refine K_aload_n (q := 217) 2 dX12_isDone_216 rfl rfl rfl ?_
    refine K_iconst (q := 218) (v := nI 3) dX12_isDone_217 rfl rfl ?_
    refine K_iload_n (q := 219) 1 dX12_isDone_218 rfl rfl rfl ?_
    refine K_cvi (q := 222) [.inl ((nI 3)), .inl (v1)] dX12_isDone_219 cb_X12_set cvRX12_333 rc_7 (show (17 : Nat) ≠ 0 by decide) rfl (Nat.le_of_ble_eq_true rfl) ⟨by decide, by decide⟩ (Nat.le_of_ble_eq_true rfl) rfl (tX12_set (nI 3) v1 M) rfl (fun v13 M12 => ?_)
    exact J_zretG dX12_isDone_222
  · refine K_aload_n (q := 217) 2 dX12_isDone_216 rfl rfl rfl ?_
    refine K_iconst (q := 218) (v := nI 3) dX12_isDone_217 rfl rfl ?_
    refine K_iload_n (q := 219) 1 dX12_isDone_218 rfl rfl rfl ?_
    refine K_cvi (q := 222) [.inl ((nI 3)), .inl (v1)] dX12_isDone_219 cb_X12_set cvRX12_333 rc_7 (show (17 : Nat) ≠ 0 by decide) rfl (Nat.le_of_ble_eq_true rfl) ⟨by decide, by decide⟩ (Nat.le_of_ble_eq_true rfl) rfl (tX12_set (nI 3) v1 M) rfl (fun v15 M14 => ?_)
    exact J_zretG dX12_isDone_222
  · refine K_aload_n (q := 150) 2 dX12_isDone_149 rfl rfl rfl ?_
    refine K_iload_n (q := 151) 1 dX12_isDone_150 rfl rfl rfl ?_
    refine K_iload_n (q := 152) 0 dX12_isDone_151 rfl rfl rfl ?_
    refine K_cvi (q := 155) [.inl (v1), .inl (v2)] dX12_isDone_152 cb_X12_evict cvRX12_320 rc_7 (show (17 : Nat) ≠ 0 by decide) rfl (Nat.le_of_ble_eq_true rfl) ⟨by decide, by decide⟩ (Nat.le_of_ble_eq_true rfl) rfl (tX12_evict v1 v2 M) rfl (fun v17 M16 => ?_)
    exact J_zretG dX12_isDone_155
  · refine K_aload_n (q := 157) 2 dX12_isDone_156 rfl rfl rfl ?_
    refine K_iload_n (q := 158) 1 dX12_isDone_157 rfl rfl rfl ?_
    refine K_iconst (q := 159) (v := nI 0) dX12_isDone_158 rfl rfl ?_
    refine K_cvi (q := 162) [.inl (v1), .inl ((nI 0))] dX12_isDone_159 cb_X12_deliversSome cvRX12_323 rc_7 (show (17 : Nat) ≠ 0 by decide) rfl (Nat.le_of_ble_eq_true rfl) ⟨by decide, by decide⟩ (Nat.le_of_ble_eq_true rfl) rfl (tX12_deliversSome v1 (nI 0) M) rfl (fun v19 M18 => ?_)
    exact J_zretG dX12_isDone_162
  · refine K_aload_n (q := 164) 2 dX12_isDone_163 rfl rfl rfl ?_
    refine K_iload_n (q := 165) 1 dX12_isDone_164 rfl rfl rfl ?_
    refine K_iconst (q := 166) (v := nI 1) dX12_isDone_165 rfl rfl ?_
    refine K_cvi (q := 169) [.inl (v1), .inl ((nI 1))] dX12_isDone_166 cb_X12_deliversSome cvRX12_323 rc_7 (show (17 : Nat) ≠ 0 by decide) rfl (Nat.le_of_ble_eq_true rfl) ⟨by decide, by decide⟩ (Nat.le_of_ble_eq_true rfl) rfl (tX12_deliversSome v1 (nI 1) M) rfl (fun v21 M20 => ?_)
    exact J_zretG dX12_isDone_169
  · refine K_aload_n (q := 171) 2 dX12_isDone_170 rfl rfl rfl ?_
    refine K_iload_n (q := 172) 1 dX12_isDone_171 rfl rfl rfl ?_
    refine K_cvi (q := 175) [.inl (v1)] dX12_isDone_172 cb_X12_tick cvRX12_327 rc_7 (show (17 : Nat) ≠ 0 by decide) rfl (Nat.le_of_ble_eq_true rfl) ⟨by decide, by decide⟩ (Nat.le_of_ble_eq_true rfl) rfl (tX12_tick v1 M) rfl (fun v23 M22 => ?_)
    refine K_iconst (q := 176) (v := -1) dX12_isDone_175 rfl rfl ?_
    refine K_icmp_eq (q := 179) (tgt := 183) dX12_isDone_176 rfl ?_ rfl ?_
    · refine K_iconst (q := 184) (v := nI 0) dX12_isDone_183 rfl rfl ?_
      exact J_zret dX12_isDone_184 (by decide)
    · refine K_iconst (q := 180) (v := nI 1) dX12_isDone_179 rfl rfl ?_
      refine J_goto (tgt := 184) dX12_isDone_180 rfl ?_
      exact J_zret dX12_isDone_184 (by decide)
  · refine K_aload_n (q := 186) 2 dX12_isDone_185 rfl rfl rfl ?_
    refine K_iload_n (q := 187) 1 dX12_isDone_186 rfl rfl rfl ?_
    refine K_cvi (q := 190) [.inl (v1)] dX12_isDone_187 cb_X12_calm cvRX12_329 rc_7 (show (17 : Nat) ≠ 0 by decide) rfl (Nat.le_of_ble_eq_true rfl) ⟨by decide, by decide⟩ (Nat.le_of_ble_eq_true rfl) rfl (tX12_calm v1 M) rfl (fun v25 M24 => ?_)
    refine K_iconst (q := 191) (v := -1) dX12_isDone_190 rfl rfl ?_
    refine K_icmp_eq (q := 194) (tgt := 198) dX12_isDone_191 rfl ?_ rfl ?_
    · refine K_iconst (q := 199) (v := nI 0) dX12_isDone_198 rfl rfl ?_
      exact J_zret dX12_isDone_199 (by decide)
    · refine K_iconst (q := 195) (v := nI 1) dX12_isDone_194 rfl rfl ?_
      refine J_goto (tgt := 199) dX12_isDone_195 rfl ?_
      exact J_zret dX12_isDone_199 (by decide)
  · refine K_aload_n (q := 201) 2 dX12_isDone_200 rfl rfl rfl ?_
    refine K_iload_n (q := 202) 1 dX12_isDone_201 rfl rfl rfl ?_
    refine K_iload_n (q := 203) 0 dX12_isDone_202 rfl rfl rfl ?_
    refine K_cvi (q := 206) [.inl (v1), .inl (v2)] dX12_isDone_203 cb_X12_go cvRX12_331 rc_7 (show (17 : Nat) ≠ 0 by decide) rfl (Nat.le_of_ble_eq_true rfl) ⟨by decide, by decide⟩ (Nat.le_of_ble_eq_true rfl) rfl (tX12_go v1 v2 M) rfl (fun v27 M26 => ?_)
    refine K_iconst (q := 207) (v := -1) dX12_isDone_206 rfl rfl ?_
    refine K_icmp_eq (q := 210) (tgt := 214) dX12_isDone_207 rfl ?_ rfl ?_
    · refine K_iconst (q := 215) (v := nI 0) dX12_isDone_214 rfl rfl ?_
      exact J_zret dX12_isDone_215 (by decide)
    · refine K_iconst (q := 211) (v := nI 1) dX12_isDone_210 rfl rfl ?_
      refine J_goto (tgt := 215) dX12_isDone_211 rfl ?_
      exact J_zret dX12_isDone_215 (by decide)
  · refine K_aload_n (q := 217) 2 dX12_isDone_216 rfl rfl rfl ?_
    refine K_iconst (q := 218) (v := nI 3) dX12_isDone_217 rfl rfl ?_
    refine K_iload_n (q := 219) 1 dX12_isDone_218 rfl rfl rfl ?_
    refine K_cvi (q := 222) [.inl ((nI 3)), .inl (v1)] dX12_isDone_219 cb_X12_set cvRX12_333 rc_7 (show (17 : Nat) ≠ 0 by decide) rfl (Nat.le_of_ble_eq_true rfl) ⟨by decide, by decide⟩ (Nat.le_of_ble_eq_true rfl) rfl (tX12_set (nI 3) v1 M) rfl (fun v29 M28 => ?_)
    exact J_zretG dX12_isDone_222
theorem dX12_run_0 : decode cX12_run 0 = .ok (.iload_n 1, 1) := by decide +kernel
theorem dX12_run_1 : decode cX12_run 1 = .ok (.iconst 1, 1) := by decide +kernel
theorem dX12_run_2 : decode cX12_run 2 = .ok (.bipush 24, 2) := by decide +kernel
theorem dX12_run_4 : decode cX12_run 4 = .ok (.invokestatic 65, 3) := by decide +kernel
theorem dX12_run_7 : decode cX12_run 7 = .ok (.ifCond .ne 5, 3) := by decide +kernel
theorem dX12_run_10 : decode cX12_run 10 = .ok (.iconst (-1), 1) := by decide +kernel
theorem dX12_run_11 : decode cX12_run 11 = .ok (.ireturn, 1) := by decide +kernel
theorem dX12_run_12 : decode cX12_run 12 = .ok (.iconst 0, 1) := by decide +kernel
theorem dX12_run_13 : decode cX12_run 13 = .ok (.istore_n 2, 1) := by decide +kernel
theorem dX12_run_14 : decode cX12_run 14 = .ok (.iconst 0, 1) := by decide +kernel
theorem dX12_run_15 : decode cX12_run 15 = .ok (.istore_n 3, 1) := by decide +kernel
theorem dX12_run_16 : decode cX12_run 16 = .ok (.iload_n 3, 1) := by decide +kernel
theorem dX12_run_17 : decode cX12_run 17 = .ok (.iload_n 1, 1) := by decide +kernel
theorem dX12_run_18 : decode cX12_run 18 = .ok (.if_icmp .ge 73, 3) := by decide +kernel
theorem dX12_run_21 : decode cX12_run 21 = .ok (.aload_n 0, 1) := by decide +kernel
theorem dX12_run_22 : decode cX12_run 22 = .ok (.getfield 9, 3) := by decide +kernel
theorem dX12_run_25 : decode cX12_run 25 = .ok (.sipush 7363, 3) := by decide +kernel
theorem dX12_run_28 : decode cX12_run 28 = .ok (.iaload, 1) := by decide +kernel
theorem dX12_run_29 : decode cX12_run 29 = .ok (.aload_n 0, 1) := by decide +kernel
theorem dX12_run_30 : decode cX12_run 30 = .ok (.getfield 9, 3) := by decide +kernel
theorem dX12_run_33 : decode cX12_run 33 = .ok (.sipush 7362, 3) := by decide +kernel
theorem dX12_run_36 : decode cX12_run 36 = .ok (.iaload, 1) := by decide +kernel
theorem dX12_run_37 : decode cX12_run 37 = .ok (.if_icmp .ge 54, 3) := by decide +kernel
theorem dX12_run_40 : decode cX12_run 40 = .ok (.sipush 7364, 3) := by decide +kernel
theorem dX12_run_43 : decode cX12_run 43 = .ok (.iconst 4, 1) := by decide +kernel
theorem dX12_run_44 : decode cX12_run 44 = .ok (.aload_n 0, 1) := by decide +kernel
theorem dX12_run_45 : decode cX12_run 45 = .ok (.getfield 9, 3) := by decide +kernel
theorem dX12_run_48 : decode cX12_run 48 = .ok (.sipush 7363, 3) := by decide +kernel
theorem dX12_run_51 : decode cX12_run 51 = .ok (.iaload, 1) := by decide +kernel
theorem dX12_run_52 : decode cX12_run 52 = .ok (.imul, 1) := by decide +kernel
theorem dX12_run_53 : decode cX12_run 53 = .ok (.iadd, 1) := by decide +kernel
theorem dX12_run_54 : decode cX12_run 54 = .ok (.istore 4, 2) := by decide +kernel
theorem dX12_run_56 : decode cX12_run 56 = .ok (.aload_n 0, 1) := by decide +kernel
theorem dX12_run_57 : decode cX12_run 57 = .ok (.getfield 9, 3) := by decide +kernel
theorem dX12_run_60 : decode cX12_run 60 = .ok (.sipush 7363, 3) := by decide +kernel
theorem dX12_run_63 : decode cX12_run 63 = .ok (.dup2, 1) := by decide +kernel
theorem dX12_run_64 : decode cX12_run 64 = .ok (.iaload, 1) := by decide +kernel
theorem dX12_run_65 : decode cX12_run 65 = .ok (.iconst 1, 1) := by decide +kernel
theorem dX12_run_66 : decode cX12_run 66 = .ok (.iadd, 1) := by decide +kernel
theorem dX12_run_67 : decode cX12_run 67 = .ok (.iastore, 1) := by decide +kernel
theorem dX12_run_68 : decode cX12_run 68 = .ok (.iload_n 2, 1) := by decide +kernel
theorem dX12_run_69 : decode cX12_run 69 = .ok (.aload_n 0, 1) := by decide +kernel
theorem dX12_run_70 : decode cX12_run 70 = .ok (.iload 4, 2) := by decide +kernel
theorem dX12_run_72 : decode cX12_run 72 = .ok (.invokevirtual 336, 3) := by decide +kernel
theorem dX12_run_75 : decode cX12_run 75 = .ok (.ifCond .eq 7, 3) := by decide +kernel
theorem dX12_run_78 : decode cX12_run 78 = .ok (.iconst 1, 1) := by decide +kernel
theorem dX12_run_79 : decode cX12_run 79 = .ok (.goto 4, 3) := by decide +kernel
theorem dX12_run_82 : decode cX12_run 82 = .ok (.iconst 0, 1) := by decide +kernel
theorem dX12_run_83 : decode cX12_run 83 = .ok (.iadd, 1) := by decide +kernel
theorem dX12_run_84 : decode cX12_run 84 = .ok (.istore_n 2, 1) := by decide +kernel
theorem dX12_run_85 : decode cX12_run 85 = .ok (.iinc 3 1, 3) := by decide +kernel
theorem dX12_run_88 : decode cX12_run 88 = .ok (.goto (-72), 3) := by decide +kernel
theorem dX12_run_91 : decode cX12_run 91 = .ok (.iload_n 2, 1) := by decide +kernel
theorem dX12_run_92 : decode cX12_run 92 = .ok (.ireturn, 1) := by decide +kernel
def xX12_run_83 (k16 : Int32 → Int32 → Int32 → j_M → Option (Int32 × j_M))  (l1 : Int32) (l3 : Int32) (s1 : Int32) (s0 : Int32) (M : j_M) : Option (Int32 × j_M) := k16 l1 (s1 + s0) (l3 + (nI 1)) M
set_option maxRecDepth 20000 in
set_option maxHeartbeats 2000000 in
theorem tX12_run_83 (k16 : Int32 → Int32 → Int32 → j_M → Option (Int32 × j_M))  (hk16 : ∀ (l1 : Int32) (l2 : Int32) (l3 : Int32) (M : j_M), J (ρ := Int32 × j_M) yX12_run cX12_run 5 (some .int) 12 277 j_ei 16 [(0, .inr (17, 0, 200)), (1, .inl (l1)), (2, .inl (l2)), (3, .inl (l3))] [] M (k16 l1 l2 l3 M)) (l1 : Int32) (l3 : Int32) (s1 : Int32) (s0 : Int32) (M : j_M) : J (ρ := Int32 × j_M) yX12_run cX12_run 5 (some .int) 12 277 j_ei 83 [(0, .inr (17, 0, 200)), (1, .inl (l1)), (3, .inl (l3))] [.inl (s0), .inl (s1)] M (xX12_run_83 k16 l1 l3 s1 s0 M) := by
  unfold xX12_run_83
  refine K_iadd (q := 84) dX12_run_83 rfl ?_
  refine K_istore_n (q := 85) (ll' := [(2, .inl (s1 + s0)), (0, .inr (17, 0, 200)), (1, .inl (l1)), (3, .inl (l3))]) dX12_run_84 rfl (by decide) rfl rfl ?_
  refine K_iinc (q := 88) (v := l3 + (nI 1)) (ll' := [(3, .inl (l3 + (nI 1))), (2, .inl (s1 + s0)), (0, .inr (17, 0, 200)), (1, .inl (l1))]) 3 dX12_run_85 rfl rfl (by decide) rfl rfl ?_
  refine J_goto (tgt := 16) dX12_run_88 rfl ?_
  exact J_sub [2, 3, 1, 0] (hk16 l1 (s1 + s0) (l3 + (nI 1)) M) rfl
def xX12_run_16   : Nat → Int32 → Int32 → Int32 → j_M → Option (Int32 × j_M)
  | 0, _, _, _, _ => none
  | n + 1, l1, l2, l3, M => (if l1 ≤ l3 then some (l2, M) else gd (nI 7363) 7460 (oli (M 201 (ix (nI 7363))) fun v1 => gd (nI 7362) 7460 (oli (M 201 (ix (nI 7362))) fun v2 => (if v2 ≤ v1 then some (l2, M) else gd (nI 7363) 7460 (oli (M 201 (ix (nI 7363))) fun v3 => gd (nI 7363) 7460 (oli (M 201 (ix (nI 7363))) fun v4 => gd (nI 7363) 7460 (oml (mw M 201 (ix (nI 7363)) (v4 + (nI 1))) fun M5 => obi (xX12_isDone ((nI 7364) + ((nI 4) * v3)) M5) fun v7 M6 => (if v7 = (0 : Int32) then xX12_run_83 (xX12_run_16  n) l1 l3 l2 (nI 0) M6 else xX12_run_83 (xX12_run_16  n) l1 l3 l2 (nI 1) M6))))))))
set_option maxRecDepth 20000 in
set_option maxHeartbeats 2000000 in
theorem tX12_run_16    : ∀ (n : Nat) (l1 : Int32) (l2 : Int32) (l3 : Int32) (M : j_M), J (ρ := Int32 × j_M) yX12_run cX12_run 5 (some .int) 12 277 j_ei 16 [(0, .inr (17, 0, 200)), (1, .inl (l1)), (2, .inl (l2)), (3, .inl (l3))] [] M (xX12_run_16  n l1 l2 l3 M) := by
  intro n
  induction n with
  | zero => intros; exact J_none
  | succ n ih =>
    intro l1 l2 l3 M
    rw [xX12_run_16.eq_2]
    refine K_iload_n (q := 17) 3 dX12_run_16 rfl rfl rfl ?_
    refine K_iload_n (q := 18) 1 dX12_run_17 rfl rfl rfl ?_
    refine K_icmp_ge (q := 21) (tgt := 91) dX12_run_18 rfl ?_ rfl ?_
    · refine K_iload_n (q := 92) 2 dX12_run_91 rfl rfl rfl ?_
      exact J_iret dX12_run_92
    · refine K_aload_n (q := 22) 0 dX12_run_21 rfl rfl rfl ?_
      refine K_getR (q := 25) (ci := 7) (a2 := 201) 0 dX12_run_22 fRX12_9 rfl rfl (by decide) rfl rfl ?_
      refine K_sipush (q := 28) (v := nI 7363) dX12_run_25 rfl rfl ?_
      refine K_iald (q := 29) dX12_run_28 rfl (fun v1 => ?_)
      refine K_aload_n (q := 30) 0 dX12_run_29 rfl rfl rfl ?_
      refine K_getR (q := 33) (ci := 7) (a2 := 201) 0 dX12_run_30 fRX12_9 rfl rfl (by decide) rfl rfl ?_
      refine K_sipush (q := 36) (v := nI 7362) dX12_run_33 rfl rfl ?_
      refine K_iald (q := 37) dX12_run_36 rfl (fun v2 => ?_)
      refine K_icmp_ge (q := 40) (tgt := 91) dX12_run_37 rfl ?_ rfl ?_
      · refine K_iload_n (q := 92) 2 dX12_run_91 rfl rfl rfl ?_
        exact J_iret dX12_run_92
      · refine K_sipush (q := 43) (v := nI 7364) dX12_run_40 rfl rfl ?_
        refine K_iconst (q := 44) (v := nI 4) dX12_run_43 rfl rfl ?_
        refine K_aload_n (q := 45) 0 dX12_run_44 rfl rfl rfl ?_
        refine K_getR (q := 48) (ci := 7) (a2 := 201) 0 dX12_run_45 fRX12_9 rfl rfl (by decide) rfl rfl ?_
        refine K_sipush (q := 51) (v := nI 7363) dX12_run_48 rfl rfl ?_
        refine K_iald (q := 52) dX12_run_51 rfl (fun v3 => ?_)
        refine K_imul (q := 53) dX12_run_52 rfl ?_
        refine K_iadd (q := 54) dX12_run_53 rfl ?_
        refine K_istore (q := 56) (ll' := [(4, .inl ((nI 7364) + ((nI 4) * v3))), (0, .inr (17, 0, 200)), (1, .inl (l1)), (2, .inl (l2)), (3, .inl (l3))]) dX12_run_54 (by decide) rfl rfl ?_
        refine K_aload_n (q := 57) 1 dX12_run_56 rfl rfl rfl ?_
        refine K_getR (q := 60) (ci := 7) (a2 := 201) 0 dX12_run_57 fRX12_9 rfl rfl (by decide) rfl rfl ?_
        refine K_sipush (q := 63) (v := nI 7363) dX12_run_60 rfl rfl ?_
        refine K_dup2 (q := 64) dX12_run_63 rfl ?_
        refine K_iald (q := 65) dX12_run_64 rfl (fun v4 => ?_)
        refine K_iconst (q := 66) (v := nI 1) dX12_run_65 rfl rfl ?_
        refine K_iadd (q := 67) dX12_run_66 rfl ?_
        refine K_iast (q := 68) dX12_run_67 rfl (fun M5 => ?_)
        refine K_iload_n (q := 69) 3 dX12_run_68 rfl rfl rfl ?_
        refine K_aload_n (q := 70) 1 dX12_run_69 rfl rfl rfl ?_
        refine K_iload (q := 72) 0 dX12_run_70 rfl rfl ?_
        refine K_cvi (q := 75) [.inl ((nI 7364) + ((nI 4) * v3))] dX12_run_72 cb_X12_isDone cvRX12_336 rc_7 (show (17 : Nat) ≠ 0 by decide) rfl (Nat.le_of_ble_eq_true rfl) ⟨by decide, by decide⟩ (Nat.le_of_ble_eq_true rfl) rfl (tX12_isDone ((nI 7364) + ((nI 4) * v3)) M5) rfl (fun v7 M6 => ?_)
        refine K_if_eq (q := 78) (tgt := 82) dX12_run_75 rfl ?_ rfl ?_
        · refine K_iconst (q := 83) (v := nI 0) dX12_run_82 rfl rfl ?_
          exact J_sub [1, 2, 4] (tX12_run_83 (xX12_run_16  n) ih l1 l3 l2 (nI 0) M6) rfl
        · refine K_iconst (q := 79) (v := nI 1) dX12_run_78 rfl rfl ?_
          refine J_goto (tgt := 83) dX12_run_79 rfl ?_
          exact J_sub [1, 2, 4] (tX12_run_83 (xX12_run_16  n) ih l1 l3 l2 (nI 1) M6) rfl
def xX12_run  (l1 : Int32) (M : j_M) : Option (Int32 × j_M) := obi (xX12_isIn l1 (nI 1) (nI 24) M) fun v2 M1 => (if v2 = (0 : Int32) then some ((-1 : Int32), M1) else xX12_run_16 fu l1 (nI 0) (nI 0) M1)
set_option maxRecDepth 20000 in
set_option maxHeartbeats 2000000 in
theorem tX12_run  (l1 : Int32) (M : j_M) : J (ρ := Int32 × j_M) yX12_run cX12_run 5 (some .int) 12 277 j_ei 0 [(0, .inr (17, 0, 200)), (1, .inl (l1))] [] M (xX12_run  l1 M) := by
  unfold xX12_run
  refine K_iload_n (q := 1) 1 dX12_run_0 rfl rfl rfl ?_
  refine K_iconst (q := 2) (v := nI 1) dX12_run_1 rfl rfl ?_
  refine K_bipush (q := 4) (v := nI 24) dX12_run_2 rfl rfl ?_
  refine K_csi (q := 7) [.inl (l1), .inl ((nI 1)), .inl ((nI 24))] dX12_run_4 cb_X12_isIn cvRX12_65 rfl (Nat.le_of_ble_eq_true rfl) ⟨by decide, by decide⟩ (Nat.le_of_ble_eq_true rfl) rfl (tX12_isIn l1 (nI 1) (nI 24) M) rfl (fun v2 M1 => ?_)
  refine K_if_ne (q := 10) (tgt := 12) dX12_run_7 rfl ?_ rfl ?_
  · refine K_iconst (q := 13) (v := nI 0) dX12_run_12 rfl rfl ?_
    refine K_istore_n (q := 14) (ll' := [(2, .inl ((nI 0))), (0, .inr (17, 0, 200)), (1, .inl (l1))]) dX12_run_13 rfl (by decide) rfl rfl ?_
    refine K_iconst (q := 15) (v := nI 0) dX12_run_14 rfl rfl ?_
    refine K_istore_n (q := 16) (ll' := [(3, .inl ((nI 0))), (2, .inl ((nI 0))), (0, .inr (17, 0, 200)), (1, .inl (l1))]) dX12_run_15 rfl (by decide) rfl rfl ?_
    exact J_sub [2, 3, 1, 0] (tX12_run_16 fu l1 (nI 0) (nI 0) M1) rfl
  · refine K_iconst (q := 11) (v := -1) dX12_run_10 rfl rfl ?_
    exact J_iret dX12_run_11
theorem dX12_seen_0 : decode cX12_seen 0 = .ok (.aload_n 0, 1) := by decide +kernel
theorem dX12_seen_1 : decode cX12_seen 1 = .ok (.iload_n 1, 1) := by decide +kernel
theorem dX12_seen_2 : decode cX12_seen 2 = .ok (.invokevirtual 69, 3) := by decide +kernel
theorem dX12_seen_5 : decode cX12_seen 5 = .ok (.ifCond .ne 5, 3) := by decide +kernel
theorem dX12_seen_8 : decode cX12_seen 8 = .ok (.iconst (-1), 1) := by decide +kernel
theorem dX12_seen_9 : decode cX12_seen 9 = .ok (.ireturn, 1) := by decide +kernel
theorem dX12_seen_10 : decode cX12_seen 10 = .ok (.iload_n 2, 1) := by decide +kernel
theorem dX12_seen_11 : decode cX12_seen 11 = .ok (.iconst (-1), 1) := by decide +kernel
theorem dX12_seen_12 : decode cX12_seen 12 = .ok (.if_icmp .ne 16, 3) := by decide +kernel
theorem dX12_seen_15 : decode cX12_seen 15 = .ok (.aload_n 0, 1) := by decide +kernel
theorem dX12_seen_16 : decode cX12_seen 16 = .ok (.getfield 9, 3) := by decide +kernel
theorem dX12_seen_19 : decode cX12_seen 19 = .ok (.sipush 2746, 3) := by decide +kernel
theorem dX12_seen_22 : decode cX12_seen 22 = .ok (.iload_n 1, 1) := by decide +kernel
theorem dX12_seen_23 : decode cX12_seen 23 = .ok (.iadd, 1) := by decide +kernel
theorem dX12_seen_24 : decode cX12_seen 24 = .ok (.iaload, 1) := by decide +kernel
theorem dX12_seen_25 : decode cX12_seen 25 = .ok (.goto 42, 3) := by decide +kernel
theorem dX12_seen_28 : decode cX12_seen 28 = .ok (.iload_n 2, 1) := by decide +kernel
theorem dX12_seen_29 : decode cX12_seen 29 = .ok (.iconst 0, 1) := by decide +kernel
theorem dX12_seen_30 : decode cX12_seen 30 = .ok (.aload_n 0, 1) := by decide +kernel
theorem dX12_seen_31 : decode cX12_seen 31 = .ok (.getfield 9, 3) := by decide +kernel
theorem dX12_seen_34 : decode cX12_seen 34 = .ok (.sipush 2746, 3) := by decide +kernel
theorem dX12_seen_37 : decode cX12_seen 37 = .ok (.iload_n 1, 1) := by decide +kernel
theorem dX12_seen_38 : decode cX12_seen 38 = .ok (.iadd, 1) := by decide +kernel
theorem dX12_seen_39 : decode cX12_seen 39 = .ok (.iaload, 1) := by decide +kernel
theorem dX12_seen_40 : decode cX12_seen 40 = .ok (.iconst 1, 1) := by decide +kernel
theorem dX12_seen_41 : decode cX12_seen 41 = .ok (.isub, 1) := by decide +kernel
theorem dX12_seen_42 : decode cX12_seen 42 = .ok (.invokestatic 65, 3) := by decide +kernel
theorem dX12_seen_45 : decode cX12_seen 45 = .ok (.ifCond .eq 21, 3) := by decide +kernel
theorem dX12_seen_48 : decode cX12_seen 48 = .ok (.aload_n 0, 1) := by decide +kernel
theorem dX12_seen_49 : decode cX12_seen 49 = .ok (.getfield 9, 3) := by decide +kernel
theorem dX12_seen_52 : decode cX12_seen 52 = .ok (.sipush 2752, 3) := by decide +kernel
theorem dX12_seen_55 : decode cX12_seen 55 = .ok (.bipush 60, 2) := by decide +kernel
theorem dX12_seen_57 : decode cX12_seen 57 = .ok (.iload_n 1, 1) := by decide +kernel
theorem dX12_seen_58 : decode cX12_seen 58 = .ok (.imul, 1) := by decide +kernel
theorem dX12_seen_59 : decode cX12_seen 59 = .ok (.iadd, 1) := by decide +kernel
theorem dX12_seen_60 : decode cX12_seen 60 = .ok (.iload_n 2, 1) := by decide +kernel
theorem dX12_seen_61 : decode cX12_seen 61 = .ok (.iadd, 1) := by decide +kernel
theorem dX12_seen_62 : decode cX12_seen 62 = .ok (.iaload, 1) := by decide +kernel
theorem dX12_seen_63 : decode cX12_seen 63 = .ok (.goto 4, 3) := by decide +kernel
theorem dX12_seen_66 : decode cX12_seen 66 = .ok (.iconst (-1), 1) := by decide +kernel
theorem dX12_seen_67 : decode cX12_seen 67 = .ok (.ireturn, 1) := by decide +kernel
def xX12_seen  (l1 : Int32) (l2 : Int32) (M : j_M) : Option (Int32 × j_M) := obi (xX12_isCpu l1 M) fun v2 M1 => (if v2 = (0 : Int32) then some ((-1 : Int32), M1) else (if l2 = (-1 : Int32) then gd ((nI 2746) + l1) 7460 (oli (M1 201 (ix ((nI 2746) + l1))) fun v7 => some (v7, M1)) else gd ((nI 2746) + l1) 7460 (oli (M1 201 (ix ((nI 2746) + l1))) fun v3 => obi (xX12_isIn l2 (nI 0) (v3 - (nI 1)) M1) fun v5 M4 => (if v5 = (0 : Int32) then some ((-1 : Int32), M4) else gd (((nI 2752) + ((nI 60) * l1)) + l2) 7460 (oli (M4 201 (ix (((nI 2752) + ((nI 60) * l1)) + l2))) fun v6 => some (v6, M4))))))
set_option maxRecDepth 20000 in
set_option maxHeartbeats 2000000 in
theorem tX12_seen  (l1 : Int32) (l2 : Int32) (M : j_M) : J (ρ := Int32 × j_M) yX12_seen cX12_seen 3 (some .int) 2 43 j_ei 0 [(0, .inr (17, 0, 200)), (1, .inl (l1)), (2, .inl (l2))] [] M (xX12_seen  l1 l2 M) := by
  unfold xX12_seen
  refine K_aload_n (q := 1) 0 dX12_seen_0 rfl rfl rfl ?_
  refine K_iload_n (q := 2) 1 dX12_seen_1 rfl rfl rfl ?_
  refine K_cvi (q := 5) [.inl (l1)] dX12_seen_2 cb_X12_isCpu cvRX12_69 rc_7 (show (17 : Nat) ≠ 0 by decide) rfl (Nat.le_of_ble_eq_true rfl) ⟨by decide, by decide⟩ (Nat.le_of_ble_eq_true rfl) rfl (tX12_isCpu l1 M) rfl (fun v2 M1 => ?_)
  refine K_if_ne (q := 8) (tgt := 10) dX12_seen_5 rfl ?_ rfl ?_
  · refine K_iload_n (q := 11) 2 dX12_seen_10 rfl rfl rfl ?_
    refine K_iconst (q := 12) (v := -1) dX12_seen_11 rfl rfl ?_
    refine K_icmp_ne (q := 15) (tgt := 28) dX12_seen_12 rfl ?_ rfl ?_
    · refine K_iload_n (q := 29) 2 dX12_seen_28 rfl rfl rfl ?_
      refine K_iconst (q := 30) (v := nI 0) dX12_seen_29 rfl rfl ?_
      refine K_aload_n (q := 31) 0 dX12_seen_30 rfl rfl rfl ?_
      refine K_getR (q := 34) (ci := 7) (a2 := 201) 0 dX12_seen_31 fRX12_9 rfl rfl (by decide) rfl rfl ?_
      refine K_sipush (q := 37) (v := nI 2746) dX12_seen_34 rfl rfl ?_
      refine K_iload_n (q := 38) 1 dX12_seen_37 rfl rfl rfl ?_
      refine K_iadd (q := 39) dX12_seen_38 rfl ?_
      refine K_iald (q := 40) dX12_seen_39 rfl (fun v3 => ?_)
      refine K_iconst (q := 41) (v := nI 1) dX12_seen_40 rfl rfl ?_
      refine K_isub (q := 42) dX12_seen_41 rfl ?_
      refine K_csi (q := 45) [.inl (l2), .inl ((nI 0)), .inl (v3 - (nI 1))] dX12_seen_42 cb_X12_isIn cvRX12_65 rfl (Nat.le_of_ble_eq_true rfl) ⟨by decide, by decide⟩ (Nat.le_of_ble_eq_true rfl) rfl (tX12_isIn l2 (nI 0) (v3 - (nI 1)) M1) rfl (fun v5 M4 => ?_)
      refine K_if_eq (q := 48) (tgt := 66) dX12_seen_45 rfl ?_ rfl ?_
      · refine K_iconst (q := 67) (v := -1) dX12_seen_66 rfl rfl ?_
        exact J_iret dX12_seen_67
      · refine K_aload_n (q := 49) 0 dX12_seen_48 rfl rfl rfl ?_
        refine K_getR (q := 52) (ci := 7) (a2 := 201) 0 dX12_seen_49 fRX12_9 rfl rfl (by decide) rfl rfl ?_
        refine K_sipush (q := 55) (v := nI 2752) dX12_seen_52 rfl rfl ?_
        refine K_bipush (q := 57) (v := nI 60) dX12_seen_55 rfl rfl ?_
        refine K_iload_n (q := 58) 1 dX12_seen_57 rfl rfl rfl ?_
        refine K_imul (q := 59) dX12_seen_58 rfl ?_
        refine K_iadd (q := 60) dX12_seen_59 rfl ?_
        refine K_iload_n (q := 61) 2 dX12_seen_60 rfl rfl rfl ?_
        refine K_iadd (q := 62) dX12_seen_61 rfl ?_
        refine K_iald (q := 63) dX12_seen_62 rfl (fun v6 => ?_)
        refine J_goto (tgt := 67) dX12_seen_63 rfl ?_
        exact J_iret dX12_seen_67
    · refine K_aload_n (q := 16) 0 dX12_seen_15 rfl rfl rfl ?_
      refine K_getR (q := 19) (ci := 7) (a2 := 201) 0 dX12_seen_16 fRX12_9 rfl rfl (by decide) rfl rfl ?_
      refine K_sipush (q := 22) (v := nI 2746) dX12_seen_19 rfl rfl ?_
      refine K_iload_n (q := 23) 1 dX12_seen_22 rfl rfl rfl ?_
      refine K_iadd (q := 24) dX12_seen_23 rfl ?_
      refine K_iald (q := 25) dX12_seen_24 rfl (fun v7 => ?_)
      refine J_goto (tgt := 67) dX12_seen_25 rfl ?_
      exact J_iret dX12_seen_67
  · refine K_iconst (q := 9) (v := -1) dX12_seen_8 rfl rfl ?_
    exact J_iret dX12_seen_9
theorem dX12_keeps_0 : decode cX12_keeps 0 = .ok (.iconst 0, 1) := by decide +kernel
theorem dX12_keeps_1 : decode cX12_keeps 1 = .ok (.istore_n 1, 1) := by decide +kernel
theorem dX12_keeps_2 : decode cX12_keeps 2 = .ok (.iload_n 1, 1) := by decide +kernel
theorem dX12_keeps_3 : decode cX12_keeps 3 = .ok (.aload_n 0, 1) := by decide +kernel
theorem dX12_keeps_4 : decode cX12_keeps 4 = .ok (.getfield 9, 3) := by decide +kernel
theorem dX12_keeps_7 : decode cX12_keeps 7 = .ok (.arraylength, 1) := by decide +kernel
theorem dX12_keeps_8 : decode cX12_keeps 8 = .ok (.if_icmp .ge 21, 3) := by decide +kernel
theorem dX12_keeps_11 : decode cX12_keeps 11 = .ok (.aload_n 0, 1) := by decide +kernel
theorem dX12_keeps_12 : decode cX12_keeps 12 = .ok (.getfield 16, 3) := by decide +kernel
theorem dX12_keeps_15 : decode cX12_keeps 15 = .ok (.iload_n 1, 1) := by decide +kernel
theorem dX12_keeps_16 : decode cX12_keeps 16 = .ok (.aload_n 0, 1) := by decide +kernel
theorem dX12_keeps_17 : decode cX12_keeps 17 = .ok (.getfield 9, 3) := by decide +kernel
theorem dX12_keeps_20 : decode cX12_keeps 20 = .ok (.iload_n 1, 1) := by decide +kernel
theorem dX12_keeps_21 : decode cX12_keeps 21 = .ok (.iaload, 1) := by decide +kernel
theorem dX12_keeps_22 : decode cX12_keeps 22 = .ok (.iastore, 1) := by decide +kernel
theorem dX12_keeps_23 : decode cX12_keeps 23 = .ok (.iinc 1 1, 3) := by decide +kernel
theorem dX12_keeps_26 : decode cX12_keeps 26 = .ok (.goto (-24), 3) := by decide +kernel
theorem dX12_keeps_29 : decode cX12_keeps 29 = .ok (.return_, 1) := by decide +kernel
def xX12_keeps_2   : Nat → Int32 → j_M → Option (j_M)
  | 0, _, _ => none
  | n + 1, l1, M => (if (nI 7460) ≤ l1 then some M else gd l1 7460 (oli (M 201 (ix l1)) fun v1 => gd l1 7460 (oml (mw M 203 (ix l1) v1) fun M2 => xX12_keeps_2  n (l1 + (nI 1)) M2)))
set_option maxRecDepth 20000 in
set_option maxHeartbeats 2000000 in
theorem tX12_keeps_2    : ∀ (n : Nat) (l1 : Int32) (M : j_M), J (ρ := j_M) yX12_keeps cX12_keeps 2 none 0 0 j_ev 2 [(0, .inr (17, 0, 200)), (1, .inl (l1))] [] M (xX12_keeps_2  n l1 M) := by
  intro n
  induction n with
  | zero => intros; exact J_none
  | succ n ih =>
    intro l1 M
    rw [xX12_keeps_2.eq_2]
    refine K_iload_n (q := 3) 1 dX12_keeps_2 rfl rfl rfl ?_
    refine K_aload_n (q := 4) 0 dX12_keeps_3 rfl rfl rfl ?_
    refine K_getR (q := 7) (ci := 7) (a2 := 201) 0 dX12_keeps_4 fRX12_9 rfl rfl (by decide) rfl rfl ?_
    refine K_alen (q := 8) (v := (nI 7460)) dX12_keeps_7 rfl rfl ?_
    refine K_icmp_ge (q := 11) (tgt := 29) dX12_keeps_8 rfl ?_ rfl ?_
    · exact J_vret dX12_keeps_29
    · refine K_aload_n (q := 12) 0 dX12_keeps_11 rfl rfl rfl ?_
      refine K_getR (q := 15) (ci := 7) (a2 := 203) 2 dX12_keeps_12 fRX12_16 rfl rfl (by decide) rfl rfl ?_
      refine K_iload_n (q := 16) 1 dX12_keeps_15 rfl rfl rfl ?_
      refine K_aload_n (q := 17) 0 dX12_keeps_16 rfl rfl rfl ?_
      refine K_getR (q := 20) (ci := 7) (a2 := 201) 0 dX12_keeps_17 fRX12_9 rfl rfl (by decide) rfl rfl ?_
      refine K_iload_n (q := 21) 1 dX12_keeps_20 rfl rfl rfl ?_
      refine K_iald (q := 22) dX12_keeps_21 rfl (fun v1 => ?_)
      refine K_iast (q := 23) dX12_keeps_22 rfl (fun M2 => ?_)
      refine K_iinc (q := 26) (v := l1 + (nI 1)) (ll' := [(1, .inl (l1 + (nI 1))), (0, .inr (17, 0, 200))]) 1 dX12_keeps_23 rfl rfl (by decide) rfl rfl ?_
      refine J_goto (tgt := 2) dX12_keeps_26 rfl ?_
      exact J_sub [1, 0] (ih (l1 + (nI 1)) M2) rfl
def xX12_keeps   (M : j_M) : Option (j_M) := xX12_keeps_2 fu (nI 0) M
set_option maxRecDepth 20000 in
set_option maxHeartbeats 2000000 in
theorem tX12_keeps   (M : j_M) : J (ρ := j_M) yX12_keeps cX12_keeps 2 none 0 0 j_ev 0 [(0, .inr (17, 0, 200))] [] M (xX12_keeps   M) := by
  unfold xX12_keeps
  refine K_iconst (q := 1) (v := nI 0) dX12_keeps_0 rfl rfl ?_
  refine K_istore_n (q := 2) (ll' := [(1, .inl ((nI 0))), (0, .inr (17, 0, 200))]) dX12_keeps_1 rfl (by decide) rfl rfl ?_
  exact J_sub [1, 0] (tX12_keeps_2 fu (nI 0) M) rfl
theorem dX12_putsBack_0 : decode cX12_putsBack 0 = .ok (.iconst 0, 1) := by decide +kernel
theorem dX12_putsBack_1 : decode cX12_putsBack 1 = .ok (.istore_n 1, 1) := by decide +kernel
theorem dX12_putsBack_2 : decode cX12_putsBack 2 = .ok (.iload_n 1, 1) := by decide +kernel
theorem dX12_putsBack_3 : decode cX12_putsBack 3 = .ok (.aload_n 0, 1) := by decide +kernel
theorem dX12_putsBack_4 : decode cX12_putsBack 4 = .ok (.getfield 9, 3) := by decide +kernel
theorem dX12_putsBack_7 : decode cX12_putsBack 7 = .ok (.arraylength, 1) := by decide +kernel
theorem dX12_putsBack_8 : decode cX12_putsBack 8 = .ok (.if_icmp .ge 21, 3) := by decide +kernel
theorem dX12_putsBack_11 : decode cX12_putsBack 11 = .ok (.aload_n 0, 1) := by decide +kernel
theorem dX12_putsBack_12 : decode cX12_putsBack 12 = .ok (.getfield 9, 3) := by decide +kernel
theorem dX12_putsBack_15 : decode cX12_putsBack 15 = .ok (.iload_n 1, 1) := by decide +kernel
theorem dX12_putsBack_16 : decode cX12_putsBack 16 = .ok (.aload_n 0, 1) := by decide +kernel
theorem dX12_putsBack_17 : decode cX12_putsBack 17 = .ok (.getfield 16, 3) := by decide +kernel
theorem dX12_putsBack_20 : decode cX12_putsBack 20 = .ok (.iload_n 1, 1) := by decide +kernel
theorem dX12_putsBack_21 : decode cX12_putsBack 21 = .ok (.iaload, 1) := by decide +kernel
theorem dX12_putsBack_22 : decode cX12_putsBack 22 = .ok (.iastore, 1) := by decide +kernel
theorem dX12_putsBack_23 : decode cX12_putsBack 23 = .ok (.iinc 1 1, 3) := by decide +kernel
theorem dX12_putsBack_26 : decode cX12_putsBack 26 = .ok (.goto (-24), 3) := by decide +kernel
theorem dX12_putsBack_29 : decode cX12_putsBack 29 = .ok (.return_, 1) := by decide +kernel
def xX12_putsBack_2   : Nat → Int32 → j_M → Option (j_M)
  | 0, _, _ => none
  | n + 1, l1, M => (if (nI 7460) ≤ l1 then some M else gd l1 7460 (oli (M 203 (ix l1)) fun v1 => gd l1 7460 (oml (mw M 201 (ix l1) v1) fun M2 => xX12_putsBack_2  n (l1 + (nI 1)) M2)))
set_option maxRecDepth 20000 in
set_option maxHeartbeats 2000000 in
theorem tX12_putsBack_2    : ∀ (n : Nat) (l1 : Int32) (M : j_M), J (ρ := j_M) yX12_putsBack cX12_putsBack 2 none 0 0 j_ev 2 [(0, .inr (17, 0, 200)), (1, .inl (l1))] [] M (xX12_putsBack_2  n l1 M) := by
  intro n
  induction n with
  | zero => intros; exact J_none
  | succ n ih =>
    intro l1 M
    rw [xX12_putsBack_2.eq_2]
    refine K_iload_n (q := 3) 1 dX12_putsBack_2 rfl rfl rfl ?_
    refine K_aload_n (q := 4) 0 dX12_putsBack_3 rfl rfl rfl ?_
    refine K_getR (q := 7) (ci := 7) (a2 := 201) 0 dX12_putsBack_4 fRX12_9 rfl rfl (by decide) rfl rfl ?_
    refine K_alen (q := 8) (v := (nI 7460)) dX12_putsBack_7 rfl rfl ?_
    refine K_icmp_ge (q := 11) (tgt := 29) dX12_putsBack_8 rfl ?_ rfl ?_
    · exact J_vret dX12_putsBack_29
    · refine K_aload_n (q := 12) 0 dX12_putsBack_11 rfl rfl rfl ?_
      refine K_getR (q := 15) (ci := 7) (a2 := 201) 0 dX12_putsBack_12 fRX12_9 rfl rfl (by decide) rfl rfl ?_
      refine K_iload_n (q := 16) 1 dX12_putsBack_15 rfl rfl rfl ?_
      refine K_aload_n (q := 17) 0 dX12_putsBack_16 rfl rfl rfl ?_
      refine K_getR (q := 20) (ci := 7) (a2 := 203) 2 dX12_putsBack_17 fRX12_16 rfl rfl (by decide) rfl rfl ?_
      refine K_iload_n (q := 21) 1 dX12_putsBack_20 rfl rfl rfl ?_
      refine K_iald (q := 22) dX12_putsBack_21 rfl (fun v1 => ?_)
      refine K_iast (q := 23) dX12_putsBack_22 rfl (fun M2 => ?_)
      refine K_iinc (q := 26) (v := l1 + (nI 1)) (ll' := [(1, .inl (l1 + (nI 1))), (0, .inr (17, 0, 200))]) 1 dX12_putsBack_23 rfl rfl (by decide) rfl rfl ?_
      refine J_goto (tgt := 2) dX12_putsBack_26 rfl ?_
      exact J_sub [1, 0] (ih (l1 + (nI 1)) M2) rfl
def xX12_putsBack   (M : j_M) : Option (j_M) := xX12_putsBack_2 fu (nI 0) M
set_option maxRecDepth 20000 in
set_option maxHeartbeats 2000000 in
theorem tX12_putsBack   (M : j_M) : J (ρ := j_M) yX12_putsBack cX12_putsBack 2 none 0 0 j_ev 0 [(0, .inr (17, 0, 200))] [] M (xX12_putsBack   M) := by
  unfold xX12_putsBack
  refine K_iconst (q := 1) (v := nI 0) dX12_putsBack_0 rfl rfl ?_
  refine K_istore_n (q := 2) (ll' := [(1, .inl ((nI 0))), (0, .inr (17, 0, 200))]) dX12_putsBack_1 rfl (by decide) rfl rfl ?_
  exact J_sub [1, 0] (tX12_putsBack_2 fu (nI 0) M) rfl
theorem dX12_soon_0 : decode cX12_soon 0 = .ok (.aload_n 0, 1) := by decide +kernel
theorem dX12_soon_1 : decode cX12_soon 1 = .ok (.iload_n 1, 1) := by decide +kernel
theorem dX12_soon_2 : decode cX12_soon 2 = .ok (.invokevirtual 69, 3) := by decide +kernel
theorem dX12_soon_5 : decode cX12_soon 5 = .ok (.ifCond .ne 5, 3) := by decide +kernel
theorem dX12_soon_8 : decode cX12_soon 8 = .ok (.iconst (-1), 1) := by decide +kernel
theorem dX12_soon_9 : decode cX12_soon 9 = .ok (.ireturn, 1) := by decide +kernel
theorem dX12_soon_10 : decode cX12_soon 10 = .ok (.aload_n 0, 1) := by decide +kernel
theorem dX12_soon_11 : decode cX12_soon 11 = .ok (.getfield 9, 3) := by decide +kernel
theorem dX12_soon_14 : decode cX12_soon 14 = .ok (.sipush 292, 3) := by decide +kernel
theorem dX12_soon_17 : decode cX12_soon 17 = .ok (.iload_n 1, 1) := by decide +kernel
theorem dX12_soon_18 : decode cX12_soon 18 = .ok (.iadd, 1) := by decide +kernel
theorem dX12_soon_19 : decode cX12_soon 19 = .ok (.iaload, 1) := by decide +kernel
theorem dX12_soon_20 : decode cX12_soon 20 = .ok (.iconst (-1), 1) := by decide +kernel
theorem dX12_soon_21 : decode cX12_soon 21 = .ok (.if_icmp .ne 5, 3) := by decide +kernel
theorem dX12_soon_24 : decode cX12_soon 24 = .ok (.iconst 0, 1) := by decide +kernel
theorem dX12_soon_25 : decode cX12_soon 25 = .ok (.ireturn, 1) := by decide +kernel
theorem dX12_soon_26 : decode cX12_soon 26 = .ok (.aload_n 0, 1) := by decide +kernel
theorem dX12_soon_27 : decode cX12_soon 27 = .ok (.invokevirtual 377, 3) := by decide +kernel
theorem dX12_soon_30 : decode cX12_soon 30 = .ok (.iconst (-1), 1) := by decide +kernel
theorem dX12_soon_31 : decode cX12_soon 31 = .ok (.istore_n 2, 1) := by decide +kernel
theorem dX12_soon_32 : decode cX12_soon 32 = .ok (.iconst 1, 1) := by decide +kernel
theorem dX12_soon_33 : decode cX12_soon 33 = .ok (.istore_n 3, 1) := by decide +kernel
theorem dX12_soon_34 : decode cX12_soon 34 = .ok (.iload_n 3, 1) := by decide +kernel
theorem dX12_soon_35 : decode cX12_soon 35 = .ok (.bipush 60, 2) := by decide +kernel
theorem dX12_soon_37 : decode cX12_soon 37 = .ok (.if_icmp .gt 39, 3) := by decide +kernel
theorem dX12_soon_40 : decode cX12_soon 40 = .ok (.iload_n 2, 1) := by decide +kernel
theorem dX12_soon_41 : decode cX12_soon 41 = .ok (.iconst (-1), 1) := by decide +kernel
theorem dX12_soon_42 : decode cX12_soon 42 = .ok (.if_icmp .ne 34, 3) := by decide +kernel
theorem dX12_soon_45 : decode cX12_soon 45 = .ok (.aload_n 0, 1) := by decide +kernel
theorem dX12_soon_46 : decode cX12_soon 46 = .ok (.invokevirtual 194, 3) := by decide +kernel
theorem dX12_soon_49 : decode cX12_soon 49 = .ok (.pop, 1) := by decide +kernel
theorem dX12_soon_50 : decode cX12_soon 50 = .ok (.aload_n 0, 1) := by decide +kernel
theorem dX12_soon_51 : decode cX12_soon 51 = .ok (.getfield 9, 3) := by decide +kernel
theorem dX12_soon_54 : decode cX12_soon 54 = .ok (.sipush 292, 3) := by decide +kernel
theorem dX12_soon_57 : decode cX12_soon 57 = .ok (.iload_n 1, 1) := by decide +kernel
theorem dX12_soon_58 : decode cX12_soon 58 = .ok (.iadd, 1) := by decide +kernel
theorem dX12_soon_59 : decode cX12_soon 59 = .ok (.iaload, 1) := by decide +kernel
theorem dX12_soon_60 : decode cX12_soon 60 = .ok (.iconst (-1), 1) := by decide +kernel
theorem dX12_soon_61 : decode cX12_soon 61 = .ok (.if_icmp .ne 7, 3) := by decide +kernel
theorem dX12_soon_64 : decode cX12_soon 64 = .ok (.iload_n 3, 1) := by decide +kernel
theorem dX12_soon_65 : decode cX12_soon 65 = .ok (.goto 4, 3) := by decide +kernel
theorem dX12_soon_68 : decode cX12_soon 68 = .ok (.iconst (-1), 1) := by decide +kernel
theorem dX12_soon_69 : decode cX12_soon 69 = .ok (.istore_n 2, 1) := by decide +kernel
theorem dX12_soon_70 : decode cX12_soon 70 = .ok (.iinc 3 1, 3) := by decide +kernel
theorem dX12_soon_73 : decode cX12_soon 73 = .ok (.goto (-39), 3) := by decide +kernel
theorem dX12_soon_76 : decode cX12_soon 76 = .ok (.aload_n 0, 1) := by decide +kernel
theorem dX12_soon_77 : decode cX12_soon 77 = .ok (.invokevirtual 380, 3) := by decide +kernel
theorem dX12_soon_80 : decode cX12_soon 80 = .ok (.iload_n 2, 1) := by decide +kernel
theorem dX12_soon_81 : decode cX12_soon 81 = .ok (.ireturn, 1) := by decide +kernel
def xX12_soon_76   (l2 : Int32) (M : j_M) : Option (Int32 × j_M) := obv (xX12_putsBack M) fun M1 => some (l2, M1)
set_option maxRecDepth 20000 in
set_option maxHeartbeats 2000000 in
theorem tX12_soon_76    (l2 : Int32) (M : j_M) : J (ρ := Int32 × j_M) yX12_soon cX12_soon 4 (some .int) 10 231 j_ei 76 [(0, .inr (17, 0, 200)), (2, .inl (l2))] [] M (xX12_soon_76  l2 M) := by
  unfold xX12_soon_76
  refine K_aload_n (q := 77) 0 dX12_soon_76 rfl rfl rfl ?_
  refine K_cvv (q := 80) [] dX12_soon_77 cb_X12_putsBack cvRX12_380 rc_7 (show (17 : Nat) ≠ 0 by decide) rfl (Nat.le_of_ble_eq_true rfl) ⟨by decide, by decide⟩ (Nat.le_of_ble_eq_true rfl) rfl (tX12_putsBack M) rfl (fun M1 => ?_)
  refine K_iload_n (q := 81) 1 dX12_soon_80 rfl rfl rfl ?_
  exact J_iret dX12_soon_81
def xX12_soon_69 (k34 : Int32 → Int32 → Int32 → j_M → Option (Int32 × j_M))  (l1 : Int32) (l3 : Int32) (s0 : Int32) (M : j_M) : Option (Int32 × j_M) := k34 l1 s0 (l3 + (nI 1)) M
set_option maxRecDepth 20000 in
set_option maxHeartbeats 2000000 in
theorem tX12_soon_69 (k34 : Int32 → Int32 → Int32 → j_M → Option (Int32 × j_M))  (hk34 : ∀ (l1 : Int32) (l2 : Int32) (l3 : Int32) (M : j_M), J (ρ := Int32 × j_M) yX12_soon cX12_soon 4 (some .int) 10 231 j_ei 34 [(0, .inr (17, 0, 200)), (1, .inl (l1)), (2, .inl (l2)), (3, .inl (l3))] [] M (k34 l1 l2 l3 M)) (l1 : Int32) (l3 : Int32) (s0 : Int32) (M : j_M) : J (ρ := Int32 × j_M) yX12_soon cX12_soon 4 (some .int) 10 231 j_ei 69 [(0, .inr (17, 0, 200)), (1, .inl (l1)), (3, .inl (l3))] [.inl (s0)] M (xX12_soon_69 k34 l1 l3 s0 M) := by
  unfold xX12_soon_69
  refine K_istore_n (q := 70) (ll' := [(2, .inl (s0)), (0, .inr (17, 0, 200)), (1, .inl (l1)), (3, .inl (l3))]) dX12_soon_69 rfl (by decide) rfl rfl ?_
  refine K_iinc (q := 73) (v := l3 + (nI 1)) (ll' := [(3, .inl (l3 + (nI 1))), (2, .inl (s0)), (0, .inr (17, 0, 200)), (1, .inl (l1))]) 3 dX12_soon_70 rfl rfl (by decide) rfl rfl ?_
  refine J_goto (tgt := 34) dX12_soon_73 rfl ?_
  exact J_sub [2, 3, 1, 0] (hk34 l1 s0 (l3 + (nI 1)) M) rfl
def xX12_soon_34   : Nat → Int32 → Int32 → Int32 → j_M → Option (Int32 × j_M)
  | 0, _, _, _, _ => none
  | n + 1, l1, l2, l3, M => (if (nI 60) < l3 then xX12_soon_76  l2 M else (if l2 = (-1 : Int32) then obi (xX12_calmOnce M) fun v2 M1 => gd ((nI 292) + l1) 7460 (oli (M1 201 (ix ((nI 292) + l1))) fun v3 => (if v3 = (-1 : Int32) then xX12_soon_69 (xX12_soon_34  n) l1 l3 l3 M1 else xX12_soon_69 (xX12_soon_34  n) l1 l3 (-1 : Int32) M1)) else xX12_soon_76  l2 M))
set_option maxRecDepth 20000 in
set_option maxHeartbeats 2000000 in
theorem tX12_soon_34    : ∀ (n : Nat) (l1 : Int32) (l2 : Int32) (l3 : Int32) (M : j_M), J (ρ := Int32 × j_M) yX12_soon cX12_soon 4 (some .int) 10 231 j_ei 34 [(0, .inr (17, 0, 200)), (1, .inl (l1)), (2, .inl (l2)), (3, .inl (l3))] [] M (xX12_soon_34  n l1 l2 l3 M) := by
  intro n
  induction n with
  | zero => intros; exact J_none
  | succ n ih =>
    intro l1 l2 l3 M
    rw [xX12_soon_34.eq_2]
    refine K_iload_n (q := 35) 3 dX12_soon_34 rfl rfl rfl ?_
    refine K_bipush (q := 37) (v := nI 60) dX12_soon_35 rfl rfl ?_
    refine K_icmp_gt (q := 40) (tgt := 76) dX12_soon_37 rfl ?_ rfl ?_
    · exact J_sub [0, 2] (tX12_soon_76  l2 M) rfl
    · refine K_iload_n (q := 41) 2 dX12_soon_40 rfl rfl rfl ?_
      refine K_iconst (q := 42) (v := -1) dX12_soon_41 rfl rfl ?_
      refine K_icmp_ne (q := 45) (tgt := 76) dX12_soon_42 rfl ?_ rfl ?_
      · exact J_sub [0, 2] (tX12_soon_76  l2 M) rfl
      · refine K_aload_n (q := 46) 0 dX12_soon_45 rfl rfl rfl ?_
        refine K_cvi (q := 49) [] dX12_soon_46 cb_X12_calmOnce cvRX12_194 rc_7 (show (17 : Nat) ≠ 0 by decide) rfl (Nat.le_of_ble_eq_true rfl) ⟨by decide, by decide⟩ (Nat.le_of_ble_eq_true rfl) rfl (tX12_calmOnce M) rfl (fun v2 M1 => ?_)
        refine K_pop (q := 50) dX12_soon_49 rfl ?_
        refine K_aload_n (q := 51) 0 dX12_soon_50 rfl rfl rfl ?_
        refine K_getR (q := 54) (ci := 7) (a2 := 201) 0 dX12_soon_51 fRX12_9 rfl rfl (by decide) rfl rfl ?_
        refine K_sipush (q := 57) (v := nI 292) dX12_soon_54 rfl rfl ?_
        refine K_iload_n (q := 58) 1 dX12_soon_57 rfl rfl rfl ?_
        refine K_iadd (q := 59) dX12_soon_58 rfl ?_
        refine K_iald (q := 60) dX12_soon_59 rfl (fun v3 => ?_)
        refine K_iconst (q := 61) (v := -1) dX12_soon_60 rfl rfl ?_
        refine K_icmp_ne (q := 64) (tgt := 68) dX12_soon_61 rfl ?_ rfl ?_
        · refine K_iconst (q := 69) (v := -1) dX12_soon_68 rfl rfl ?_
          exact J_sub [0, 1, 3] (tX12_soon_69 (xX12_soon_34  n) ih l1 l3 (-1 : Int32) M1) rfl
        · refine K_iload_n (q := 65) 3 dX12_soon_64 rfl rfl rfl ?_
          refine J_goto (tgt := 69) dX12_soon_65 rfl ?_
          exact J_sub [0, 1, 3] (tX12_soon_69 (xX12_soon_34  n) ih l1 l3 l3 M1) rfl
def xX12_soon  (l1 : Int32) (M : j_M) : Option (Int32 × j_M) := obi (xX12_isCpu l1 M) fun v2 M1 => (if v2 = (0 : Int32) then some ((-1 : Int32), M1) else gd ((nI 292) + l1) 7460 (oli (M1 201 (ix ((nI 292) + l1))) fun v3 => (if v3 = (-1 : Int32) then some ((nI 0), M1) else obv (xX12_keeps M1) fun M4 => xX12_soon_34 fu l1 (-1 : Int32) (nI 1) M4)))
set_option maxRecDepth 20000 in
set_option maxHeartbeats 2000000 in
theorem tX12_soon  (l1 : Int32) (M : j_M) : J (ρ := Int32 × j_M) yX12_soon cX12_soon 4 (some .int) 10 231 j_ei 0 [(0, .inr (17, 0, 200)), (1, .inl (l1))] [] M (xX12_soon  l1 M) := by
  unfold xX12_soon
  refine K_aload_n (q := 1) 0 dX12_soon_0 rfl rfl rfl ?_
  refine K_iload_n (q := 2) 1 dX12_soon_1 rfl rfl rfl ?_
  refine K_cvi (q := 5) [.inl (l1)] dX12_soon_2 cb_X12_isCpu cvRX12_69 rc_7 (show (17 : Nat) ≠ 0 by decide) rfl (Nat.le_of_ble_eq_true rfl) ⟨by decide, by decide⟩ (Nat.le_of_ble_eq_true rfl) rfl (tX12_isCpu l1 M) rfl (fun v2 M1 => ?_)
  refine K_if_ne (q := 8) (tgt := 10) dX12_soon_5 rfl ?_ rfl ?_
  · refine K_aload_n (q := 11) 0 dX12_soon_10 rfl rfl rfl ?_
    refine K_getR (q := 14) (ci := 7) (a2 := 201) 0 dX12_soon_11 fRX12_9 rfl rfl (by decide) rfl rfl ?_
    refine K_sipush (q := 17) (v := nI 292) dX12_soon_14 rfl rfl ?_
    refine K_iload_n (q := 18) 1 dX12_soon_17 rfl rfl rfl ?_
    refine K_iadd (q := 19) dX12_soon_18 rfl ?_
    refine K_iald (q := 20) dX12_soon_19 rfl (fun v3 => ?_)
    refine K_iconst (q := 21) (v := -1) dX12_soon_20 rfl rfl ?_
    refine K_icmp_ne (q := 24) (tgt := 26) dX12_soon_21 rfl ?_ rfl ?_
    · refine K_aload_n (q := 27) 0 dX12_soon_26 rfl rfl rfl ?_
      refine K_cvv (q := 30) [] dX12_soon_27 cb_X12_keeps cvRX12_377 rc_7 (show (17 : Nat) ≠ 0 by decide) rfl (Nat.le_of_ble_eq_true rfl) ⟨by decide, by decide⟩ (Nat.le_of_ble_eq_true rfl) rfl (tX12_keeps M1) rfl (fun M4 => ?_)
      refine K_iconst (q := 31) (v := -1) dX12_soon_30 rfl rfl ?_
      refine K_istore_n (q := 32) (ll' := [(2, .inl ((-1 : Int32))), (0, .inr (17, 0, 200)), (1, .inl (l1))]) dX12_soon_31 rfl (by decide) rfl rfl ?_
      refine K_iconst (q := 33) (v := nI 1) dX12_soon_32 rfl rfl ?_
      refine K_istore_n (q := 34) (ll' := [(3, .inl ((nI 1))), (2, .inl ((-1 : Int32))), (0, .inr (17, 0, 200)), (1, .inl (l1))]) dX12_soon_33 rfl (by decide) rfl rfl ?_
      exact J_sub [2, 3, 1, 0] (tX12_soon_34 fu l1 (-1 : Int32) (nI 1) M4) rfl
    · refine K_iconst (q := 25) (v := nI 0) dX12_soon_24 rfl rfl ?_
      exact J_iret dX12_soon_25
  · refine K_iconst (q := 9) (v := -1) dX12_soon_8 rfl rfl ?_
    exact J_iret dX12_soon_9
theorem dX12_table_0 : decode cX12_table 0 = .ok (.aload_n 0, 1) := by decide +kernel
theorem dX12_table_1 : decode cX12_table 1 = .ok (.iload_n 1, 1) := by decide +kernel
theorem dX12_table_2 : decode cX12_table 2 = .ok (.invokevirtual 119, 3) := by decide +kernel
theorem dX12_table_5 : decode cX12_table 5 = .ok (.ifCond .eq 11, 3) := by decide +kernel
theorem dX12_table_8 : decode cX12_table 8 = .ok (.aload_n 0, 1) := by decide +kernel
theorem dX12_table_9 : decode cX12_table 9 = .ok (.iload_n 2, 1) := by decide +kernel
theorem dX12_table_10 : decode cX12_table 10 = .ok (.invokevirtual 69, 3) := by decide +kernel
theorem dX12_table_13 : decode cX12_table 13 = .ok (.ifCond .ne 5, 3) := by decide +kernel
theorem dX12_table_16 : decode cX12_table 16 = .ok (.iconst (-1), 1) := by decide +kernel
theorem dX12_table_17 : decode cX12_table 17 = .ok (.ireturn, 1) := by decide +kernel
theorem dX12_table_18 : decode cX12_table 18 = .ok (.bipush 6, 2) := by decide +kernel
theorem dX12_table_20 : decode cX12_table 20 = .ok (.iload_n 1, 1) := by decide +kernel
theorem dX12_table_21 : decode cX12_table 21 = .ok (.imul, 1) := by decide +kernel
theorem dX12_table_22 : decode cX12_table 22 = .ok (.iload_n 2, 1) := by decide +kernel
theorem dX12_table_23 : decode cX12_table 23 = .ok (.iadd, 1) := by decide +kernel
theorem dX12_table_24 : decode cX12_table 24 = .ok (.istore 4, 2) := by decide +kernel
theorem dX12_table_26 : decode cX12_table 26 = .ok (.iload_n 3, 1) := by decide +kernel
theorem dX12_table_27 : decode cX12_table 27 = .ok (.tableswitch 93 0 4 #[33, 45, 57, 69, 81], 33) := by decide +kernel
theorem dX12_table_60 : decode cX12_table 60 = .ok (.aload_n 0, 1) := by decide +kernel
theorem dX12_table_61 : decode cX12_table 61 = .ok (.getfield 9, 3) := by decide +kernel
theorem dX12_table_64 : decode cX12_table 64 = .ok (.sipush 316, 3) := by decide +kernel
theorem dX12_table_67 : decode cX12_table 67 = .ok (.iload 4, 2) := by decide +kernel
theorem dX12_table_69 : decode cX12_table 69 = .ok (.iadd, 1) := by decide +kernel
theorem dX12_table_70 : decode cX12_table 70 = .ok (.iaload, 1) := by decide +kernel
theorem dX12_table_71 : decode cX12_table 71 = .ok (.ireturn, 1) := by decide +kernel
theorem dX12_table_72 : decode cX12_table 72 = .ok (.aload_n 0, 1) := by decide +kernel
theorem dX12_table_73 : decode cX12_table 73 = .ok (.getfield 9, 3) := by decide +kernel
theorem dX12_table_76 : decode cX12_table 76 = .ok (.sipush 358, 3) := by decide +kernel
theorem dX12_table_79 : decode cX12_table 79 = .ok (.iload 4, 2) := by decide +kernel
theorem dX12_table_81 : decode cX12_table 81 = .ok (.iadd, 1) := by decide +kernel
theorem dX12_table_82 : decode cX12_table 82 = .ok (.iaload, 1) := by decide +kernel
theorem dX12_table_83 : decode cX12_table 83 = .ok (.ireturn, 1) := by decide +kernel
theorem dX12_table_84 : decode cX12_table 84 = .ok (.aload_n 0, 1) := by decide +kernel
theorem dX12_table_85 : decode cX12_table 85 = .ok (.getfield 9, 3) := by decide +kernel
theorem dX12_table_88 : decode cX12_table 88 = .ok (.sipush 400, 3) := by decide +kernel
theorem dX12_table_91 : decode cX12_table 91 = .ok (.iload 4, 2) := by decide +kernel
theorem dX12_table_93 : decode cX12_table 93 = .ok (.iadd, 1) := by decide +kernel
theorem dX12_table_94 : decode cX12_table 94 = .ok (.iaload, 1) := by decide +kernel
theorem dX12_table_95 : decode cX12_table 95 = .ok (.ireturn, 1) := by decide +kernel
theorem dX12_table_96 : decode cX12_table 96 = .ok (.aload_n 0, 1) := by decide +kernel
theorem dX12_table_97 : decode cX12_table 97 = .ok (.getfield 9, 3) := by decide +kernel
theorem dX12_table_100 : decode cX12_table 100 = .ok (.sipush 442, 3) := by decide +kernel
theorem dX12_table_103 : decode cX12_table 103 = .ok (.iload 4, 2) := by decide +kernel
theorem dX12_table_105 : decode cX12_table 105 = .ok (.iadd, 1) := by decide +kernel
theorem dX12_table_106 : decode cX12_table 106 = .ok (.iaload, 1) := by decide +kernel
theorem dX12_table_107 : decode cX12_table 107 = .ok (.ireturn, 1) := by decide +kernel
theorem dX12_table_108 : decode cX12_table 108 = .ok (.aload_n 0, 1) := by decide +kernel
theorem dX12_table_109 : decode cX12_table 109 = .ok (.getfield 9, 3) := by decide +kernel
theorem dX12_table_112 : decode cX12_table 112 = .ok (.sipush 484, 3) := by decide +kernel
theorem dX12_table_115 : decode cX12_table 115 = .ok (.iload 4, 2) := by decide +kernel
theorem dX12_table_117 : decode cX12_table 117 = .ok (.iadd, 1) := by decide +kernel
theorem dX12_table_118 : decode cX12_table 118 = .ok (.iaload, 1) := by decide +kernel
theorem dX12_table_119 : decode cX12_table 119 = .ok (.ireturn, 1) := by decide +kernel
theorem dX12_table_120 : decode cX12_table 120 = .ok (.iconst (-1), 1) := by decide +kernel
theorem dX12_table_121 : decode cX12_table 121 = .ok (.ireturn, 1) := by decide +kernel
def xX12_table  (l1 : Int32) (l2 : Int32) (l3 : Int32) (M : j_M) : Option (Int32 × j_M) := obi (xX12_isNode l1 M) fun v2 M1 => (if v2 = (0 : Int32) then some ((-1 : Int32), M1) else obi (xX12_isCpu l2 M1) fun v4 M3 => (if v4 = (0 : Int32) then some ((-1 : Int32), M3) else osw l3 [((nI 0), gd ((nI 316) + (((nI 6) * l1) + l2)) 7460 (oli (M3 201 (ix ((nI 316) + (((nI 6) * l1) + l2)))) fun v5 => some (v5, M3))), ((nI 1), gd ((nI 358) + (((nI 6) * l1) + l2)) 7460 (oli (M3 201 (ix ((nI 358) + (((nI 6) * l1) + l2)))) fun v6 => some (v6, M3))), ((nI 2), gd ((nI 400) + (((nI 6) * l1) + l2)) 7460 (oli (M3 201 (ix ((nI 400) + (((nI 6) * l1) + l2)))) fun v7 => some (v7, M3))), ((nI 3), gd ((nI 442) + (((nI 6) * l1) + l2)) 7460 (oli (M3 201 (ix ((nI 442) + (((nI 6) * l1) + l2)))) fun v8 => some (v8, M3))), ((nI 4), gd ((nI 484) + (((nI 6) * l1) + l2)) 7460 (oli (M3 201 (ix ((nI 484) + (((nI 6) * l1) + l2)))) fun v9 => some (v9, M3)))] (some ((-1 : Int32), M3))))
set_option maxRecDepth 20000 in
set_option maxHeartbeats 2000000 in
theorem tX12_table  (l1 : Int32) (l2 : Int32) (l3 : Int32) (M : j_M) : J (ρ := Int32 × j_M) yX12_table cX12_table 5 (some .int) 3 64 j_ei 0 [(0, .inr (17, 0, 200)), (1, .inl (l1)), (2, .inl (l2)), (3, .inl (l3))] [] M (xX12_table  l1 l2 l3 M) := by
  unfold xX12_table
  refine K_aload_n (q := 1) 0 dX12_table_0 rfl rfl rfl ?_
  refine K_iload_n (q := 2) 1 dX12_table_1 rfl rfl rfl ?_
  refine K_cvi (q := 5) [.inl (l1)] dX12_table_2 cb_X12_isNode cvRX12_119 rc_7 (show (17 : Nat) ≠ 0 by decide) rfl (Nat.le_of_ble_eq_true rfl) ⟨by decide, by decide⟩ (Nat.le_of_ble_eq_true rfl) rfl (tX12_isNode l1 M) rfl (fun v2 M1 => ?_)
  refine K_if_eq (q := 8) (tgt := 16) dX12_table_5 rfl ?_ rfl ?_
  · refine K_iconst (q := 17) (v := -1) dX12_table_16 rfl rfl ?_
    exact J_iret dX12_table_17
  · refine K_aload_n (q := 9) 0 dX12_table_8 rfl rfl rfl ?_
    refine K_iload_n (q := 10) 2 dX12_table_9 rfl rfl rfl ?_
    refine K_cvi (q := 13) [.inl (l2)] dX12_table_10 cb_X12_isCpu cvRX12_69 rc_7 (show (17 : Nat) ≠ 0 by decide) rfl (Nat.le_of_ble_eq_true rfl) ⟨by decide, by decide⟩ (Nat.le_of_ble_eq_true rfl) rfl (tX12_isCpu l2 M1) rfl (fun v4 M3 => ?_)
    refine K_if_ne (q := 16) (tgt := 18) dX12_table_13 rfl ?_ rfl ?_
    · refine K_bipush (q := 20) (v := nI 6) dX12_table_18 rfl rfl ?_
      refine K_iload_n (q := 21) 1 dX12_table_20 rfl rfl rfl ?_
      refine K_imul (q := 22) dX12_table_21 rfl ?_
      refine K_iload_n (q := 23) 2 dX12_table_22 rfl rfl rfl ?_
      refine K_iadd (q := 24) dX12_table_23 rfl ?_
      refine K_istore (q := 26) (ll' := [(4, .inl (((nI 6) * l1) + l2)), (0, .inr (17, 0, 200)), (1, .inl (l1)), (2, .inl (l2)), (3, .inl (l3))]) dX12_table_24 (by decide) rfl rfl ?_
      refine K_iload_n (q := 27) 4 dX12_table_26 rfl rfl rfl ?_
      refine K_tsw (dt := 120) [60, 72, 84, 96, 108] dX12_table_27 rfl rfl rfl rfl ⟨?_, ?_, ?_, ?_, ?_, trivial⟩ ?_
      · refine K_aload_n (q := 61) 1 dX12_table_60 rfl rfl rfl ?_
        refine K_getR (q := 64) (ci := 7) (a2 := 201) 0 dX12_table_61 fRX12_9 rfl rfl (by decide) rfl rfl ?_
        refine K_sipush (q := 67) (v := nI 316) dX12_table_64 rfl rfl ?_
        refine K_iload (q := 69) 0 dX12_table_67 rfl rfl ?_
        refine K_iadd (q := 70) dX12_table_69 rfl ?_
        refine K_iald (q := 71) dX12_table_70 rfl (fun v5 => ?_)
        exact J_iret dX12_table_71
      · refine K_aload_n (q := 73) 1 dX12_table_72 rfl rfl rfl ?_
        refine K_getR (q := 76) (ci := 7) (a2 := 201) 0 dX12_table_73 fRX12_9 rfl rfl (by decide) rfl rfl ?_
        refine K_sipush (q := 79) (v := nI 358) dX12_table_76 rfl rfl ?_
        refine K_iload (q := 81) 0 dX12_table_79 rfl rfl ?_
        refine K_iadd (q := 82) dX12_table_81 rfl ?_
        refine K_iald (q := 83) dX12_table_82 rfl (fun v6 => ?_)
        exact J_iret dX12_table_83
      · refine K_aload_n (q := 85) 1 dX12_table_84 rfl rfl rfl ?_
        refine K_getR (q := 88) (ci := 7) (a2 := 201) 0 dX12_table_85 fRX12_9 rfl rfl (by decide) rfl rfl ?_
        refine K_sipush (q := 91) (v := nI 400) dX12_table_88 rfl rfl ?_
        refine K_iload (q := 93) 0 dX12_table_91 rfl rfl ?_
        refine K_iadd (q := 94) dX12_table_93 rfl ?_
        refine K_iald (q := 95) dX12_table_94 rfl (fun v7 => ?_)
        exact J_iret dX12_table_95
      · refine K_aload_n (q := 97) 1 dX12_table_96 rfl rfl rfl ?_
        refine K_getR (q := 100) (ci := 7) (a2 := 201) 0 dX12_table_97 fRX12_9 rfl rfl (by decide) rfl rfl ?_
        refine K_sipush (q := 103) (v := nI 442) dX12_table_100 rfl rfl ?_
        refine K_iload (q := 105) 0 dX12_table_103 rfl rfl ?_
        refine K_iadd (q := 106) dX12_table_105 rfl ?_
        refine K_iald (q := 107) dX12_table_106 rfl (fun v8 => ?_)
        exact J_iret dX12_table_107
      · refine K_aload_n (q := 109) 1 dX12_table_108 rfl rfl rfl ?_
        refine K_getR (q := 112) (ci := 7) (a2 := 201) 0 dX12_table_109 fRX12_9 rfl rfl (by decide) rfl rfl ?_
        refine K_sipush (q := 115) (v := nI 484) dX12_table_112 rfl rfl ?_
        refine K_iload (q := 117) 0 dX12_table_115 rfl rfl ?_
        refine K_iadd (q := 118) dX12_table_117 rfl ?_
        refine K_iald (q := 119) dX12_table_118 rfl (fun v9 => ?_)
        exact J_iret dX12_table_119
      · refine K_iconst (q := 121) (v := -1) dX12_table_120 rfl rfl ?_
        exact J_iret dX12_table_121
    · refine K_iconst (q := 17) (v := -1) dX12_table_16 rfl rfl ?_
      exact J_iret dX12_table_17
theorem dX12_text_0 : decode cX12_text 0 = .ok (.aload_n 0, 1) := by decide +kernel
theorem dX12_text_1 : decode cX12_text 1 = .ok (.iconst 0, 1) := by decide +kernel
theorem dX12_text_2 : decode cX12_text 2 = .ok (.putfield 310, 3) := by decide +kernel
theorem dX12_text_5 : decode cX12_text 5 = .ok (.aload_n 0, 1) := by decide +kernel
theorem dX12_text_6 : decode cX12_text 6 = .ok (.iconst (-1), 1) := by decide +kernel
theorem dX12_text_7 : decode cX12_text 7 = .ok (.putfield 41, 3) := by decide +kernel
theorem dX12_text_10 : decode cX12_text 10 = .ok (.aload_n 0, 1) := by decide +kernel
theorem dX12_text_11 : decode cX12_text 11 = .ok (.iload_n 1, 1) := by decide +kernel
theorem dX12_text_12 : decode cX12_text 12 = .ok (.bipush 6, 2) := by decide +kernel
theorem dX12_text_14 : decode cX12_text 14 = .ok (.if_icmp .ne 7, 3) := by decide +kernel
theorem dX12_text_17 : decode cX12_text 17 = .ok (.iconst 1, 1) := by decide +kernel
theorem dX12_text_18 : decode cX12_text 18 = .ok (.goto 4, 3) := by decide +kernel
theorem dX12_text_21 : decode cX12_text 21 = .ok (.iconst 0, 1) := by decide +kernel
theorem dX12_text_22 : decode cX12_text 22 = .ok (.putfield 242, 3) := by decide +kernel
theorem dX12_text_25 : decode cX12_text 25 = .ok (.aload_n 0, 1) := by decide +kernel
theorem dX12_text_26 : decode cX12_text 26 = .ok (.getfield 242, 3) := by decide +kernel
theorem dX12_text_29 : decode cX12_text 29 = .ok (.ifCond .eq 12, 3) := by decide +kernel
theorem dX12_text_32 : decode cX12_text 32 = .ok (.aload_n 0, 1) := by decide +kernel
theorem dX12_text_33 : decode cX12_text 33 = .ok (.aload_n 0, 1) := by decide +kernel
theorem dX12_text_34 : decode cX12_text 34 = .ok (.invokevirtual 339, 3) := by decide +kernel
theorem dX12_text_37 : decode cX12_text 37 = .ok (.invokevirtual 342, 3) := by decide +kernel
theorem dX12_text_40 : decode cX12_text 40 = .ok (.ireturn, 1) := by decide +kernel
theorem dX12_text_41 : decode cX12_text 41 = .ok (.iload_n 1, 1) := by decide +kernel
theorem dX12_text_42 : decode cX12_text 42 = .ok (.iconst 0, 1) := by decide +kernel
theorem dX12_text_43 : decode cX12_text 43 = .ok (.iconst 5, 1) := by decide +kernel
theorem dX12_text_44 : decode cX12_text 44 = .ok (.invokestatic 65, 3) := by decide +kernel
theorem dX12_text_47 : decode cX12_text 47 = .ok (.ifCond .ne 10, 3) := by decide +kernel
theorem dX12_text_50 : decode cX12_text 50 = .ok (.aload_n 0, 1) := by decide +kernel
theorem dX12_text_51 : decode cX12_text 51 = .ok (.iconst 0, 1) := by decide +kernel
theorem dX12_text_52 : decode cX12_text 52 = .ok (.putfield 197, 3) := by decide +kernel
theorem dX12_text_55 : decode cX12_text 55 = .ok (.iconst (-1), 1) := by decide +kernel
theorem dX12_text_56 : decode cX12_text 56 = .ok (.ireturn, 1) := by decide +kernel
theorem dX12_text_57 : decode cX12_text 57 = .ok (.aload_n 0, 1) := by decide +kernel
theorem dX12_text_58 : decode cX12_text 58 = .ok (.invokevirtual 346, 3) := by decide +kernel
theorem dX12_text_61 : decode cX12_text 61 = .ok (.ifCond .eq 14, 3) := by decide +kernel
theorem dX12_text_64 : decode cX12_text 64 = .ok (.aload_n 0, 1) := by decide +kernel
theorem dX12_text_65 : decode cX12_text 65 = .ok (.invokevirtual 349, 3) := by decide +kernel
theorem dX12_text_68 : decode cX12_text 68 = .ok (.ifCond .eq 7, 3) := by decide +kernel
theorem dX12_text_71 : decode cX12_text 71 = .ok (.iconst 1, 1) := by decide +kernel
theorem dX12_text_72 : decode cX12_text 72 = .ok (.goto 4, 3) := by decide +kernel
theorem dX12_text_75 : decode cX12_text 75 = .ok (.iconst 0, 1) := by decide +kernel
theorem dX12_text_76 : decode cX12_text 76 = .ok (.istore_n 2, 1) := by decide +kernel
theorem dX12_text_77 : decode cX12_text 77 = .ok (.aload_n 0, 1) := by decide +kernel
theorem dX12_text_78 : decode cX12_text 78 = .ok (.iconst 0, 1) := by decide +kernel
theorem dX12_text_79 : decode cX12_text 79 = .ok (.putfield 197, 3) := by decide +kernel
theorem dX12_text_82 : decode cX12_text 82 = .ok (.iload_n 2, 1) := by decide +kernel
theorem dX12_text_83 : decode cX12_text 83 = .ok (.ifCond .ne 21, 3) := by decide +kernel
theorem dX12_text_86 : decode cX12_text 86 = .ok (.aload_n 0, 1) := by decide +kernel
theorem dX12_text_87 : decode cX12_text 87 = .ok (.aload_n 0, 1) := by decide +kernel
theorem dX12_text_88 : decode cX12_text 88 = .ok (.getfield 268, 3) := by decide +kernel
theorem dX12_text_91 : decode cX12_text 91 = .ok (.putfield 310, 3) := by decide +kernel
theorem dX12_text_94 : decode cX12_text 94 = .ok (.aload_n 0, 1) := by decide +kernel
theorem dX12_text_95 : decode cX12_text 95 = .ok (.aload_n 0, 1) := by decide +kernel
theorem dX12_text_96 : decode cX12_text 96 = .ok (.getfield 271, 3) := by decide +kernel
theorem dX12_text_99 : decode cX12_text 99 = .ok (.putfield 41, 3) := by decide +kernel
theorem dX12_text_102 : decode cX12_text 102 = .ok (.iconst (-1), 1) := by decide +kernel
theorem dX12_text_103 : decode cX12_text 103 = .ok (.ireturn, 1) := by decide +kernel
theorem dX12_text_104 : decode cX12_text 104 = .ok (.iconst 0, 1) := by decide +kernel
theorem dX12_text_105 : decode cX12_text 105 = .ok (.istore_n 3, 1) := by decide +kernel
theorem dX12_text_106 : decode cX12_text 106 = .ok (.iload_n 3, 1) := by decide +kernel
theorem dX12_text_107 : decode cX12_text 107 = .ok (.sipush 600, 3) := by decide +kernel
theorem dX12_text_110 : decode cX12_text 110 = .ok (.if_icmp .ge 45, 3) := by decide +kernel
theorem dX12_text_113 : decode cX12_text 113 = .ok (.aload_n 0, 1) := by decide +kernel
theorem dX12_text_114 : decode cX12_text 114 = .ok (.getfield 9, 3) := by decide +kernel
theorem dX12_text_117 : decode cX12_text 117 = .ok (.sipush 3130, 3) := by decide +kernel
theorem dX12_text_120 : decode cX12_text 120 = .ok (.sipush 600, 3) := by decide +kernel
theorem dX12_text_123 : decode cX12_text 123 = .ok (.iload_n 1, 1) := by decide +kernel
theorem dX12_text_124 : decode cX12_text 124 = .ok (.imul, 1) := by decide +kernel
theorem dX12_text_125 : decode cX12_text 125 = .ok (.iadd, 1) := by decide +kernel
theorem dX12_text_126 : decode cX12_text 126 = .ok (.iload_n 3, 1) := by decide +kernel
theorem dX12_text_127 : decode cX12_text 127 = .ok (.iadd, 1) := by decide +kernel
theorem dX12_text_128 : decode cX12_text 128 = .ok (.iload_n 3, 1) := by decide +kernel
theorem dX12_text_129 : decode cX12_text 129 = .ok (.iconst 3, 1) := by decide +kernel
theorem dX12_text_130 : decode cX12_text 130 = .ok (.aload_n 0, 1) := by decide +kernel
theorem dX12_text_131 : decode cX12_text 131 = .ok (.getfield 301, 3) := by decide +kernel
theorem dX12_text_134 : decode cX12_text 134 = .ok (.imul, 1) := by decide +kernel
theorem dX12_text_135 : decode cX12_text 135 = .ok (.if_icmp .ge 12, 3) := by decide +kernel
theorem dX12_text_138 : decode cX12_text 138 = .ok (.aload_n 0, 1) := by decide +kernel
theorem dX12_text_139 : decode cX12_text 139 = .ok (.getfield 32, 3) := by decide +kernel
theorem dX12_text_142 : decode cX12_text 142 = .ok (.iload_n 3, 1) := by decide +kernel
theorem dX12_text_143 : decode cX12_text 143 = .ok (.iaload, 1) := by decide +kernel
theorem dX12_text_144 : decode cX12_text 144 = .ok (.goto 4, 3) := by decide +kernel
theorem dX12_text_147 : decode cX12_text 147 = .ok (.iconst 0, 1) := by decide +kernel
theorem dX12_text_148 : decode cX12_text 148 = .ok (.iastore, 1) := by decide +kernel
theorem dX12_text_149 : decode cX12_text 149 = .ok (.iinc 3 1, 3) := by decide +kernel
theorem dX12_text_152 : decode cX12_text 152 = .ok (.goto (-46), 3) := by decide +kernel
theorem dX12_text_155 : decode cX12_text 155 = .ok (.aload_n 0, 1) := by decide +kernel
theorem dX12_text_156 : decode cX12_text 156 = .ok (.getfield 9, 3) := by decide +kernel
theorem dX12_text_159 : decode cX12_text 159 = .ok (.sipush 3112, 3) := by decide +kernel
theorem dX12_text_162 : decode cX12_text 162 = .ok (.iload_n 1, 1) := by decide +kernel
theorem dX12_text_163 : decode cX12_text 163 = .ok (.iadd, 1) := by decide +kernel
theorem dX12_text_164 : decode cX12_text 164 = .ok (.aload_n 0, 1) := by decide +kernel
theorem dX12_text_165 : decode cX12_text 165 = .ok (.getfield 301, 3) := by decide +kernel
theorem dX12_text_168 : decode cX12_text 168 = .ok (.iastore, 1) := by decide +kernel
theorem dX12_text_169 : decode cX12_text 169 = .ok (.aload_n 0, 1) := by decide +kernel
theorem dX12_text_170 : decode cX12_text 170 = .ok (.getfield 9, 3) := by decide +kernel
theorem dX12_text_173 : decode cX12_text 173 = .ok (.sipush 3118, 3) := by decide +kernel
theorem dX12_text_176 : decode cX12_text 176 = .ok (.iload_n 1, 1) := by decide +kernel
theorem dX12_text_177 : decode cX12_text 177 = .ok (.iadd, 1) := by decide +kernel
theorem dX12_text_178 : decode cX12_text 178 = .ok (.iconst 0, 1) := by decide +kernel
theorem dX12_text_179 : decode cX12_text 179 = .ok (.iastore, 1) := by decide +kernel
theorem dX12_text_180 : decode cX12_text 180 = .ok (.aload_n 0, 1) := by decide +kernel
theorem dX12_text_181 : decode cX12_text 181 = .ok (.getfield 301, 3) := by decide +kernel
theorem dX12_text_184 : decode cX12_text 184 = .ok (.ireturn, 1) := by decide +kernel
def xX12_text_148 (k106 : Int32 → Int32 → j_M → Option (Int32 × j_M))  (l1 : Int32) (l3 : Int32) (s1 : Int32) (s0 : Int32) (M : j_M) : Option (Int32 × j_M) := gd s1 7460 (oml (mw M 201 (ix s1) s0) fun M1 => k106 l1 (l3 + (nI 1)) M1)
set_option maxRecDepth 20000 in
set_option maxHeartbeats 2000000 in
theorem tX12_text_148 (k106 : Int32 → Int32 → j_M → Option (Int32 × j_M))  (hk106 : ∀ (l1 : Int32) (l3 : Int32) (M : j_M), J (ρ := Int32 × j_M) yX12_text cX12_text 4 (some .int) 12 290 j_ei 106 [(0, .inr (17, 0, 200)), (1, .inl (l1)), (3, .inl (l3))] [] M (k106 l1 l3 M)) (l1 : Int32) (l3 : Int32) (s1 : Int32) (s0 : Int32) (M : j_M) : J (ρ := Int32 × j_M) yX12_text cX12_text 4 (some .int) 12 290 j_ei 148 [(0, .inr (17, 0, 200)), (1, .inl (l1)), (3, .inl (l3))] [.inl (s0), .inl (s1), .inr (1, 7460, 201)] M (xX12_text_148 k106 l1 l3 s1 s0 M) := by
  unfold xX12_text_148
  refine K_iast (q := 149) dX12_text_148 rfl (fun M1 => ?_)
  refine K_iinc (q := 152) (v := l3 + (nI 1)) (ll' := [(3, .inl (l3 + (nI 1))), (0, .inr (17, 0, 200)), (1, .inl (l1))]) 2 dX12_text_149 rfl rfl (by decide) rfl rfl ?_
  refine J_goto (tgt := 106) dX12_text_152 rfl ?_
  exact J_sub [1, 2, 0] (hk106 l1 (l3 + (nI 1)) M1) rfl
def xX12_text_106   : Nat → Int32 → Int32 → j_M → Option (Int32 × j_M)
  | 0, _, _, _ => none
  | n + 1, l1, l3, M => (if (nI 600) ≤ l3 then oli (M 200 18) fun v1 => gd ((nI 3112) + l1) 7460 (oml (mw M 201 (ix ((nI 3112) + l1)) v1) fun M2 => gd ((nI 3118) + l1) 7460 (oml (mw M2 201 (ix ((nI 3118) + l1)) (nI 0)) fun M3 => oli (M3 200 18) fun v4 => some (v4, M3))) else oli (M 200 18) fun v5 => (if ((nI 3) * v5) ≤ l3 then xX12_text_148 (xX12_text_106  n) l1 l3 (((nI 3130) + ((nI 600) * l1)) + l3) (nI 0) M else gd l3 600 (oli (M 208 (ix l3)) fun v6 => xX12_text_148 (xX12_text_106  n) l1 l3 (((nI 3130) + ((nI 600) * l1)) + l3) v6 M)))
set_option maxRecDepth 20000 in
set_option maxHeartbeats 2000000 in
theorem tX12_text_106    : ∀ (n : Nat) (l1 : Int32) (l3 : Int32) (M : j_M), J (ρ := Int32 × j_M) yX12_text cX12_text 4 (some .int) 12 290 j_ei 106 [(0, .inr (17, 0, 200)), (1, .inl (l1)), (3, .inl (l3))] [] M (xX12_text_106  n l1 l3 M) := by
  intro n
  induction n with
  | zero => intros; exact J_none
  | succ n ih =>
    intro l1 l3 M
    rw [xX12_text_106.eq_2]
    refine K_iload_n (q := 107) 2 dX12_text_106 rfl rfl rfl ?_
    refine K_sipush (q := 110) (v := nI 600) dX12_text_107 rfl rfl ?_
    refine K_icmp_ge (q := 113) (tgt := 155) dX12_text_110 rfl ?_ rfl ?_
    · refine K_aload_n (q := 156) 0 dX12_text_155 rfl rfl rfl ?_
      refine K_getR (q := 159) (ci := 7) (a2 := 201) 0 dX12_text_156 fRX12_9 rfl rfl (by decide) rfl rfl ?_
      refine K_sipush (q := 162) (v := nI 3112) dX12_text_159 rfl rfl ?_
      refine K_iload_n (q := 163) 1 dX12_text_162 rfl rfl rfl ?_
      refine K_iadd (q := 164) dX12_text_163 rfl ?_
      refine K_aload_n (q := 165) 0 dX12_text_164 rfl rfl rfl ?_
      refine K_getI (q := 168) (ci := 7) 18 dX12_text_165 fRX12_301 rfl rfl rfl (fun v1 => ?_)
      refine K_iast (q := 169) dX12_text_168 rfl (fun M2 => ?_)
      refine K_aload_n (q := 170) 0 dX12_text_169 rfl rfl rfl ?_
      refine K_getR (q := 173) (ci := 7) (a2 := 201) 0 dX12_text_170 fRX12_9 rfl rfl (by decide) rfl rfl ?_
      refine K_sipush (q := 176) (v := nI 3118) dX12_text_173 rfl rfl ?_
      refine K_iload_n (q := 177) 1 dX12_text_176 rfl rfl rfl ?_
      refine K_iadd (q := 178) dX12_text_177 rfl ?_
      refine K_iconst (q := 179) (v := nI 0) dX12_text_178 rfl rfl ?_
      refine K_iast (q := 180) dX12_text_179 rfl (fun M3 => ?_)
      refine K_aload_n (q := 181) 0 dX12_text_180 rfl rfl rfl ?_
      refine K_getI (q := 184) (ci := 7) 18 dX12_text_181 fRX12_301 rfl rfl rfl (fun v4 => ?_)
      exact J_iret dX12_text_184
    · refine K_aload_n (q := 114) 0 dX12_text_113 rfl rfl rfl ?_
      refine K_getR (q := 117) (ci := 7) (a2 := 201) 0 dX12_text_114 fRX12_9 rfl rfl (by decide) rfl rfl ?_
      refine K_sipush (q := 120) (v := nI 3130) dX12_text_117 rfl rfl ?_
      refine K_sipush (q := 123) (v := nI 600) dX12_text_120 rfl rfl ?_
      refine K_iload_n (q := 124) 1 dX12_text_123 rfl rfl rfl ?_
      refine K_imul (q := 125) dX12_text_124 rfl ?_
      refine K_iadd (q := 126) dX12_text_125 rfl ?_
      refine K_iload_n (q := 127) 2 dX12_text_126 rfl rfl rfl ?_
      refine K_iadd (q := 128) dX12_text_127 rfl ?_
      refine K_iload_n (q := 129) 2 dX12_text_128 rfl rfl rfl ?_
      refine K_iconst (q := 130) (v := nI 3) dX12_text_129 rfl rfl ?_
      refine K_aload_n (q := 131) 0 dX12_text_130 rfl rfl rfl ?_
      refine K_getI (q := 134) (ci := 7) 18 dX12_text_131 fRX12_301 rfl rfl rfl (fun v5 => ?_)
      refine K_imul (q := 135) dX12_text_134 rfl ?_
      refine K_icmp_ge (q := 138) (tgt := 147) dX12_text_135 rfl ?_ rfl ?_
      · refine K_iconst (q := 148) (v := nI 0) dX12_text_147 rfl rfl ?_
        exact J_sub [0, 1, 2] (tX12_text_148 (xX12_text_106  n) ih l1 l3 (((nI 3130) + ((nI 600) * l1)) + l3) (nI 0) M) rfl
      · refine K_aload_n (q := 139) 0 dX12_text_138 rfl rfl rfl ?_
        refine K_getR (q := 142) (ci := 7) (a2 := 208) 8 dX12_text_139 fRX12_32 rfl rfl (by decide) rfl rfl ?_
        refine K_iload_n (q := 143) 2 dX12_text_142 rfl rfl rfl ?_
        refine K_iald (q := 144) dX12_text_143 rfl (fun v6 => ?_)
        refine J_goto (tgt := 148) dX12_text_144 rfl ?_
        exact J_sub [0, 1, 2] (tX12_text_148 (xX12_text_106  n) ih l1 l3 (((nI 3130) + ((nI 600) * l1)) + l3) v6 M) rfl
def xX12_text_76   (l1 : Int32) (s0 : Int32) (M : j_M) : Option (Int32 × j_M) := oml (mw M 200 11 (nI 0)) fun M1 => (if s0 = (0 : Int32) then oli (M1 200 20) fun v2 => oml (mw M1 200 19 v2) fun M3 => oli (M3 200 21) fun v4 => oml (mw M3 200 22 v4) fun M5 => some ((-1 : Int32), M5) else xX12_text_106 fu l1 (nI 0) M1)
set_option maxRecDepth 20000 in
set_option maxHeartbeats 2000000 in
theorem tX12_text_76    (l1 : Int32) (s0 : Int32) (M : j_M) : J (ρ := Int32 × j_M) yX12_text cX12_text 4 (some .int) 12 290 j_ei 76 [(0, .inr (17, 0, 200)), (1, .inl (l1))] [.inl (s0)] M (xX12_text_76  l1 s0 M) := by
  unfold xX12_text_76
  refine K_istore_n (q := 77) (ll' := [(2, .inl (s0)), (0, .inr (17, 0, 200)), (1, .inl (l1))]) dX12_text_76 rfl (by decide) rfl rfl ?_
  refine K_aload_n (q := 78) 1 dX12_text_77 rfl rfl rfl ?_
  refine K_iconst (q := 79) (v := nI 0) dX12_text_78 rfl rfl ?_
  refine K_putI (q := 82) (ci := 7) 11 dX12_text_79 fRX12_197 fp_7_11 rfl rfl (by decide) rfl (fun M1 => ?_)
  refine K_iload_n (q := 83) 0 dX12_text_82 rfl rfl rfl ?_
  refine K_if_ne (q := 86) (tgt := 104) dX12_text_83 rfl ?_ rfl ?_
  · refine K_iconst (q := 105) (v := nI 0) dX12_text_104 rfl rfl ?_
    refine K_istore_n (q := 106) (ll' := [(3, .inl ((nI 0))), (2, .inl (s0)), (0, .inr (17, 0, 200)), (1, .inl (l1))]) dX12_text_105 rfl (by decide) rfl rfl ?_
    exact J_sub [2, 3, 0] (tX12_text_106 fu l1 (nI 0) M1) rfl
  · refine K_aload_n (q := 87) 1 dX12_text_86 rfl rfl rfl ?_
    refine K_aload_n (q := 88) 1 dX12_text_87 rfl rfl rfl ?_
    refine K_getI (q := 91) (ci := 7) 20 dX12_text_88 fRX12_268 rfl rfl rfl (fun v2 => ?_)
    refine K_putI (q := 94) (ci := 7) 19 dX12_text_91 fRX12_310 fp_7_19 rfl rfl (by decide) rfl (fun M3 => ?_)
    refine K_aload_n (q := 95) 1 dX12_text_94 rfl rfl rfl ?_
    refine K_aload_n (q := 96) 1 dX12_text_95 rfl rfl rfl ?_
    refine K_getI (q := 99) (ci := 7) 21 dX12_text_96 fRX12_271 rfl rfl rfl (fun v4 => ?_)
    refine K_putI (q := 102) (ci := 7) 22 dX12_text_99 fRX12_41 fp_7_22 rfl rfl (by decide) rfl (fun M5 => ?_)
    refine K_iconst (q := 103) (v := -1) dX12_text_102 rfl rfl ?_
    exact J_iret dX12_text_103
def xX12_text_75   (l1 : Int32) (M : j_M) : Option (Int32 × j_M) := xX12_text_76  l1 (nI 0) M
set_option maxRecDepth 20000 in
set_option maxHeartbeats 2000000 in
theorem tX12_text_75    (l1 : Int32) (M : j_M) : J (ρ := Int32 × j_M) yX12_text cX12_text 4 (some .int) 12 290 j_ei 75 [(0, .inr (17, 0, 200)), (1, .inl (l1))] [] M (xX12_text_75  l1 M) := by
  unfold xX12_text_75
  refine K_iconst (q := 76) (v := nI 0) dX12_text_75 rfl rfl ?_
  exact J_sub [0, 1] (tX12_text_76  l1 (nI 0) M) rfl
def xX12_text_22   (l1 : Int32) (s0 : Int32) (M : j_M) : Option (Int32 × j_M) := gz s0 (oml (mw M 200 23 s0) fun M1 => oli (M1 200 23) fun v2 => (if v2 = (0 : Int32) then obi (xX12_isIn l1 (nI 0) (nI 5) M1) fun v4 M3 => (if v4 = (0 : Int32) then oml (mw M3 200 11 (nI 0)) fun M9 => some ((-1 : Int32), M9) else obi (xX12_readsAll M3) fun v6 M5 => (if v6 = (0 : Int32) then xX12_text_75  l1 M5 else obi (xX12_makes M5) fun v8 M7 => (if v8 = (0 : Int32) then xX12_text_75  l1 M7 else xX12_text_76  l1 (nI 1) M7))) else obi (xX12_readsPlan M1) fun v11 M10 => obi (xX12_planned v11 M10) fun v13 M12 => some (v13, M12)))
set_option maxRecDepth 20000 in
set_option maxHeartbeats 2000000 in
theorem tX12_text_22    (l1 : Int32) (s0 : Int32) (M : j_M) : J (ρ := Int32 × j_M) yX12_text cX12_text 4 (some .int) 12 290 j_ei 22 [(0, .inr (17, 0, 200)), (1, .inl (l1))] [.inl (s0), .inr (17, 0, 200)] M (xX12_text_22  l1 s0 M) := by
  unfold xX12_text_22
  refine K_putZ (q := 25) (ci := 7) 23 dX12_text_22 fRX12_242 fp_7_23 rfl rfl (by decide) rfl (fun M1 => ?_)
  refine K_aload_n (q := 26) 0 dX12_text_25 rfl rfl rfl ?_
  refine K_getI (q := 29) (ci := 7) 23 dX12_text_26 fRX12_242 rfl rfl rfl (fun v2 => ?_)
  refine K_if_eq (q := 32) (tgt := 41) dX12_text_29 rfl ?_ rfl ?_
  · refine K_iload_n (q := 42) 1 dX12_text_41 rfl rfl rfl ?_
    refine K_iconst (q := 43) (v := nI 0) dX12_text_42 rfl rfl ?_
    refine K_iconst (q := 44) (v := nI 5) dX12_text_43 rfl rfl ?_
    refine K_csi (q := 47) [.inl (l1), .inl ((nI 0)), .inl ((nI 5))] dX12_text_44 cb_X12_isIn cvRX12_65 rfl (Nat.le_of_ble_eq_true rfl) ⟨by decide, by decide⟩ (Nat.le_of_ble_eq_true rfl) rfl (tX12_isIn l1 (nI 0) (nI 5) M1) rfl (fun v4 M3 => ?_)
    refine K_if_ne (q := 50) (tgt := 57) dX12_text_47 rfl ?_ rfl ?_
    · refine K_aload_n (q := 58) 0 dX12_text_57 rfl rfl rfl ?_
      refine K_cvi (q := 61) [] dX12_text_58 cb_X12_readsAll cvRX12_346 rc_7 (show (17 : Nat) ≠ 0 by decide) rfl (Nat.le_of_ble_eq_true rfl) ⟨by decide, by decide⟩ (Nat.le_of_ble_eq_true rfl) rfl (tX12_readsAll M3) rfl (fun v6 M5 => ?_)
      refine K_if_eq (q := 64) (tgt := 75) dX12_text_61 rfl ?_ rfl ?_
      · exact J_sub [0, 1] (tX12_text_75  l1 M5) rfl
      · refine K_aload_n (q := 65) 0 dX12_text_64 rfl rfl rfl ?_
        refine K_cvi (q := 68) [] dX12_text_65 cb_X12_makes cvRX12_349 rc_7 (show (17 : Nat) ≠ 0 by decide) rfl (Nat.le_of_ble_eq_true rfl) ⟨by decide, by decide⟩ (Nat.le_of_ble_eq_true rfl) rfl (tX12_makes M5) rfl (fun v8 M7 => ?_)
        refine K_if_eq (q := 71) (tgt := 75) dX12_text_68 rfl ?_ rfl ?_
        · exact J_sub [0, 1] (tX12_text_75  l1 M7) rfl
        · refine K_iconst (q := 72) (v := nI 1) dX12_text_71 rfl rfl ?_
          refine J_goto (tgt := 76) dX12_text_72 rfl ?_
          exact J_sub [0, 1] (tX12_text_76  l1 (nI 1) M7) rfl
    · refine K_aload_n (q := 51) 0 dX12_text_50 rfl rfl rfl ?_
      refine K_iconst (q := 52) (v := nI 0) dX12_text_51 rfl rfl ?_
      refine K_putI (q := 55) (ci := 7) 11 dX12_text_52 fRX12_197 fp_7_11 rfl rfl (by decide) rfl (fun M9 => ?_)
      refine K_iconst (q := 56) (v := -1) dX12_text_55 rfl rfl ?_
      exact J_iret dX12_text_56
  · refine K_aload_n (q := 33) 0 dX12_text_32 rfl rfl rfl ?_
    refine K_aload_n (q := 34) 0 dX12_text_33 rfl rfl rfl ?_
    refine K_cvi (q := 37) [] dX12_text_34 cb_X12_readsPlan cvRX12_339 rc_7 (show (17 : Nat) ≠ 0 by decide) rfl (Nat.le_of_ble_eq_true rfl) ⟨by decide, by decide⟩ (Nat.le_of_ble_eq_true rfl) rfl (tX12_readsPlan M1) rfl (fun v11 M10 => ?_)
    refine K_cvi (q := 40) [.inl (v11)] dX12_text_37 cb_X12_planned cvRX12_342 rc_7 (show (17 : Nat) ≠ 0 by decide) rfl (Nat.le_of_ble_eq_true rfl) ⟨by decide, by decide⟩ (Nat.le_of_ble_eq_true rfl) rfl (tX12_planned v11 M10) rfl (fun v13 M12 => ?_)
    exact J_iret dX12_text_40
def xX12_text  (l1 : Int32) (M : j_M) : Option (Int32 × j_M) := oml (mw M 200 19 (nI 0)) fun M1 => oml (mw M1 200 22 (-1 : Int32)) fun M2 => (if l1 = (nI 6) then xX12_text_22  l1 (nI 1) M2 else xX12_text_22  l1 (nI 0) M2)
set_option maxRecDepth 20000 in
set_option maxHeartbeats 2000000 in
theorem tX12_text  (l1 : Int32) (M : j_M) : J (ρ := Int32 × j_M) yX12_text cX12_text 4 (some .int) 12 290 j_ei 0 [(0, .inr (17, 0, 200)), (1, .inl (l1))] [] M (xX12_text  l1 M) := by
  unfold xX12_text
  refine K_aload_n (q := 1) 0 dX12_text_0 rfl rfl rfl ?_
  refine K_iconst (q := 2) (v := nI 0) dX12_text_1 rfl rfl ?_
  refine K_putI (q := 5) (ci := 7) 19 dX12_text_2 fRX12_310 fp_7_19 rfl rfl (by decide) rfl (fun M1 => ?_)
  refine K_aload_n (q := 6) 0 dX12_text_5 rfl rfl rfl ?_
  refine K_iconst (q := 7) (v := -1) dX12_text_6 rfl rfl ?_
  refine K_putI (q := 10) (ci := 7) 22 dX12_text_7 fRX12_41 fp_7_22 rfl rfl (by decide) rfl (fun M2 => ?_)
  refine K_aload_n (q := 11) 0 dX12_text_10 rfl rfl rfl ?_
  refine K_iload_n (q := 12) 1 dX12_text_11 rfl rfl rfl ?_
  refine K_bipush (q := 14) (v := nI 6) dX12_text_12 rfl rfl ?_
  refine K_icmp_ne (q := 17) (tgt := 21) dX12_text_14 rfl ?_ rfl ?_
  · refine K_iconst (q := 22) (v := nI 0) dX12_text_21 rfl rfl ?_
    exact J_sub [0, 1] (tX12_text_22  l1 (nI 0) M2) rfl
  · refine K_iconst (q := 18) (v := nI 1) dX12_text_17 rfl rfl ?_
    refine J_goto (tgt := 22) dX12_text_18 rfl ?_
    exact J_sub [0, 1] (tX12_text_22  l1 (nI 1) M2) rfl
theorem dX12_trace_0 : decode cX12_trace 0 = .ok (.aload_n 0, 1) := by decide +kernel
theorem dX12_trace_1 : decode cX12_trace 1 = .ok (.getfield 9, 3) := by decide +kernel
theorem dX12_trace_4 : decode cX12_trace 4 = .ok (.sipush 6961, 3) := by decide +kernel
theorem dX12_trace_7 : decode cX12_trace 7 = .ok (.iaload, 1) := by decide +kernel
theorem dX12_trace_8 : decode cX12_trace 8 = .ok (.bipush 100, 2) := by decide +kernel
theorem dX12_trace_10 : decode cX12_trace 10 = .ok (.if_icmp .le 8, 3) := by decide +kernel
theorem dX12_trace_13 : decode cX12_trace 13 = .ok (.bipush 100, 2) := by decide +kernel
theorem dX12_trace_15 : decode cX12_trace 15 = .ok (.goto 11, 3) := by decide +kernel
theorem dX12_trace_18 : decode cX12_trace 18 = .ok (.aload_n 0, 1) := by decide +kernel
theorem dX12_trace_19 : decode cX12_trace 19 = .ok (.getfield 9, 3) := by decide +kernel
theorem dX12_trace_22 : decode cX12_trace 22 = .ok (.sipush 6961, 3) := by decide +kernel
theorem dX12_trace_25 : decode cX12_trace 25 = .ok (.iaload, 1) := by decide +kernel
theorem dX12_trace_26 : decode cX12_trace 26 = .ok (.istore_n 3, 1) := by decide +kernel
theorem dX12_trace_27 : decode cX12_trace 27 = .ok (.iload_n 1, 1) := by decide +kernel
theorem dX12_trace_28 : decode cX12_trace 28 = .ok (.iconst 0, 1) := by decide +kernel
theorem dX12_trace_29 : decode cX12_trace 29 = .ok (.iload_n 3, 1) := by decide +kernel
theorem dX12_trace_30 : decode cX12_trace 30 = .ok (.iconst 1, 1) := by decide +kernel
theorem dX12_trace_31 : decode cX12_trace 31 = .ok (.isub, 1) := by decide +kernel
theorem dX12_trace_32 : decode cX12_trace 32 = .ok (.invokestatic 65, 3) := by decide +kernel
theorem dX12_trace_35 : decode cX12_trace 35 = .ok (.ifCond .eq 12, 3) := by decide +kernel
theorem dX12_trace_38 : decode cX12_trace 38 = .ok (.iload_n 2, 1) := by decide +kernel
theorem dX12_trace_39 : decode cX12_trace 39 = .ok (.iconst 0, 1) := by decide +kernel
theorem dX12_trace_40 : decode cX12_trace 40 = .ok (.iconst 3, 1) := by decide +kernel
theorem dX12_trace_41 : decode cX12_trace 41 = .ok (.invokestatic 65, 3) := by decide +kernel
theorem dX12_trace_44 : decode cX12_trace 44 = .ok (.ifCond .ne 5, 3) := by decide +kernel
theorem dX12_trace_47 : decode cX12_trace 47 = .ok (.iconst (-1), 1) := by decide +kernel
theorem dX12_trace_48 : decode cX12_trace 48 = .ok (.ireturn, 1) := by decide +kernel
theorem dX12_trace_49 : decode cX12_trace 49 = .ok (.aload_n 0, 1) := by decide +kernel
theorem dX12_trace_50 : decode cX12_trace 50 = .ok (.getfield 9, 3) := by decide +kernel
theorem dX12_trace_53 : decode cX12_trace 53 = .ok (.sipush 6962, 3) := by decide +kernel
theorem dX12_trace_56 : decode cX12_trace 56 = .ok (.iconst 4, 1) := by decide +kernel
theorem dX12_trace_57 : decode cX12_trace 57 = .ok (.aload_n 0, 1) := by decide +kernel
theorem dX12_trace_58 : decode cX12_trace 58 = .ok (.getfield 9, 3) := by decide +kernel
theorem dX12_trace_61 : decode cX12_trace 61 = .ok (.sipush 6961, 3) := by decide +kernel
theorem dX12_trace_64 : decode cX12_trace 64 = .ok (.iaload, 1) := by decide +kernel
theorem dX12_trace_65 : decode cX12_trace 65 = .ok (.iconst 1, 1) := by decide +kernel
theorem dX12_trace_66 : decode cX12_trace 66 = .ok (.isub, 1) := by decide +kernel
theorem dX12_trace_67 : decode cX12_trace 67 = .ok (.iload_n 1, 1) := by decide +kernel
theorem dX12_trace_68 : decode cX12_trace 68 = .ok (.isub, 1) := by decide +kernel
theorem dX12_trace_69 : decode cX12_trace 69 = .ok (.bipush 100, 2) := by decide +kernel
theorem dX12_trace_71 : decode cX12_trace 71 = .ok (.irem, 1) := by decide +kernel
theorem dX12_trace_72 : decode cX12_trace 72 = .ok (.imul, 1) := by decide +kernel
theorem dX12_trace_73 : decode cX12_trace 73 = .ok (.iadd, 1) := by decide +kernel
theorem dX12_trace_74 : decode cX12_trace 74 = .ok (.iload_n 2, 1) := by decide +kernel
theorem dX12_trace_75 : decode cX12_trace 75 = .ok (.iadd, 1) := by decide +kernel
theorem dX12_trace_76 : decode cX12_trace 76 = .ok (.iaload, 1) := by decide +kernel
theorem dX12_trace_77 : decode cX12_trace 77 = .ok (.ireturn, 1) := by decide +kernel
def xX12_trace_26   (l1 : Int32) (l2 : Int32) (s0 : Int32) (M : j_M) : Option (Int32 × j_M) := obi (xX12_isIn l1 (nI 0) (s0 - (nI 1)) M) fun v2 M1 => (if v2 = (0 : Int32) then some ((-1 : Int32), M1) else obi (xX12_isIn l2 (nI 0) (nI 3) M1) fun v4 M3 => (if v4 = (0 : Int32) then some ((-1 : Int32), M3) else gd (nI 6961) 7460 (oli (M3 201 (ix (nI 6961))) fun v5 => gn (nI 100) (gd (((nI 6962) + ((nI 4) * (((v5 - (nI 1)) - l1) - ((v5 - (nI 1)) - l1) / (nI 100) * (nI 100)))) + l2) 7460 (oli (M3 201 (ix (((nI 6962) + ((nI 4) * (((v5 - (nI 1)) - l1) - ((v5 - (nI 1)) - l1) / (nI 100) * (nI 100)))) + l2))) fun v6 => some (v6, M3))))))
set_option maxRecDepth 20000 in
set_option maxHeartbeats 2000000 in
theorem tX12_trace_26    (l1 : Int32) (l2 : Int32) (s0 : Int32) (M : j_M) : J (ρ := Int32 × j_M) yX12_trace cX12_trace 4 (some .int) 1 22 j_ei 26 [(0, .inr (17, 0, 200)), (1, .inl (l1)), (2, .inl (l2))] [.inl (s0)] M (xX12_trace_26  l1 l2 s0 M) := by
  unfold xX12_trace_26
  refine K_istore_n (q := 27) (ll' := [(3, .inl (s0)), (0, .inr (17, 0, 200)), (1, .inl (l1)), (2, .inl (l2))]) dX12_trace_26 rfl (by decide) rfl rfl ?_
  refine K_iload_n (q := 28) 2 dX12_trace_27 rfl rfl rfl ?_
  refine K_iconst (q := 29) (v := nI 0) dX12_trace_28 rfl rfl ?_
  refine K_iload_n (q := 30) 0 dX12_trace_29 rfl rfl rfl ?_
  refine K_iconst (q := 31) (v := nI 1) dX12_trace_30 rfl rfl ?_
  refine K_isub (q := 32) dX12_trace_31 rfl ?_
  refine K_csi (q := 35) [.inl (l1), .inl ((nI 0)), .inl (s0 - (nI 1))] dX12_trace_32 cb_X12_isIn cvRX12_65 rfl (Nat.le_of_ble_eq_true rfl) ⟨by decide, by decide⟩ (Nat.le_of_ble_eq_true rfl) rfl (tX12_isIn l1 (nI 0) (s0 - (nI 1)) M) rfl (fun v2 M1 => ?_)
  refine K_if_eq (q := 38) (tgt := 47) dX12_trace_35 rfl ?_ rfl ?_
  · refine K_iconst (q := 48) (v := -1) dX12_trace_47 rfl rfl ?_
    exact J_iret dX12_trace_48
  · refine K_iload_n (q := 39) 3 dX12_trace_38 rfl rfl rfl ?_
    refine K_iconst (q := 40) (v := nI 0) dX12_trace_39 rfl rfl ?_
    refine K_iconst (q := 41) (v := nI 3) dX12_trace_40 rfl rfl ?_
    refine K_csi (q := 44) [.inl (l2), .inl ((nI 0)), .inl ((nI 3))] dX12_trace_41 cb_X12_isIn cvRX12_65 rfl (Nat.le_of_ble_eq_true rfl) ⟨by decide, by decide⟩ (Nat.le_of_ble_eq_true rfl) rfl (tX12_isIn l2 (nI 0) (nI 3) M1) rfl (fun v4 M3 => ?_)
    refine K_if_ne (q := 47) (tgt := 49) dX12_trace_44 rfl ?_ rfl ?_
    · refine K_aload_n (q := 50) 1 dX12_trace_49 rfl rfl rfl ?_
      refine K_getR (q := 53) (ci := 7) (a2 := 201) 0 dX12_trace_50 fRX12_9 rfl rfl (by decide) rfl rfl ?_
      refine K_sipush (q := 56) (v := nI 6962) dX12_trace_53 rfl rfl ?_
      refine K_iconst (q := 57) (v := nI 4) dX12_trace_56 rfl rfl ?_
      refine K_aload_n (q := 58) 1 dX12_trace_57 rfl rfl rfl ?_
      refine K_getR (q := 61) (ci := 7) (a2 := 201) 0 dX12_trace_58 fRX12_9 rfl rfl (by decide) rfl rfl ?_
      refine K_sipush (q := 64) (v := nI 6961) dX12_trace_61 rfl rfl ?_
      refine K_iald (q := 65) dX12_trace_64 rfl (fun v5 => ?_)
      refine K_iconst (q := 66) (v := nI 1) dX12_trace_65 rfl rfl ?_
      refine K_isub (q := 67) dX12_trace_66 rfl ?_
      refine K_iload_n (q := 68) 2 dX12_trace_67 rfl rfl rfl ?_
      refine K_isub (q := 69) dX12_trace_68 rfl ?_
      refine K_bipush (q := 71) (v := nI 100) dX12_trace_69 rfl rfl ?_
      refine K_irem (q := 72) dX12_trace_71 rfl ?_
      refine K_imul (q := 73) dX12_trace_72 rfl ?_
      refine K_iadd (q := 74) dX12_trace_73 rfl ?_
      refine K_iload_n (q := 75) 3 dX12_trace_74 rfl rfl rfl ?_
      refine K_iadd (q := 76) dX12_trace_75 rfl ?_
      refine K_iald (q := 77) dX12_trace_76 rfl (fun v6 => ?_)
      exact J_iret dX12_trace_77
    · refine K_iconst (q := 48) (v := -1) dX12_trace_47 rfl rfl ?_
      exact J_iret dX12_trace_48
def xX12_trace  (l1 : Int32) (l2 : Int32) (M : j_M) : Option (Int32 × j_M) := gd (nI 6961) 7460 (oli (M 201 (ix (nI 6961))) fun v1 => (if v1 ≤ (nI 100) then gd (nI 6961) 7460 (oli (M 201 (ix (nI 6961))) fun v2 => xX12_trace_26  l1 l2 v2 M) else xX12_trace_26  l1 l2 (nI 100) M))
set_option maxRecDepth 20000 in
set_option maxHeartbeats 2000000 in
theorem tX12_trace  (l1 : Int32) (l2 : Int32) (M : j_M) : J (ρ := Int32 × j_M) yX12_trace cX12_trace 4 (some .int) 1 22 j_ei 0 [(0, .inr (17, 0, 200)), (1, .inl (l1)), (2, .inl (l2))] [] M (xX12_trace  l1 l2 M) := by
  unfold xX12_trace
  refine K_aload_n (q := 1) 0 dX12_trace_0 rfl rfl rfl ?_
  refine K_getR (q := 4) (ci := 7) (a2 := 201) 0 dX12_trace_1 fRX12_9 rfl rfl (by decide) rfl rfl ?_
  refine K_sipush (q := 7) (v := nI 6961) dX12_trace_4 rfl rfl ?_
  refine K_iald (q := 8) dX12_trace_7 rfl (fun v1 => ?_)
  refine K_bipush (q := 10) (v := nI 100) dX12_trace_8 rfl rfl ?_
  refine K_icmp_le (q := 13) (tgt := 18) dX12_trace_10 rfl ?_ rfl ?_
  · refine K_aload_n (q := 19) 0 dX12_trace_18 rfl rfl rfl ?_
    refine K_getR (q := 22) (ci := 7) (a2 := 201) 0 dX12_trace_19 fRX12_9 rfl rfl (by decide) rfl rfl ?_
    refine K_sipush (q := 25) (v := nI 6961) dX12_trace_22 rfl rfl ?_
    refine K_iald (q := 26) dX12_trace_25 rfl (fun v2 => ?_)
    exact J_sub [0, 1, 2] (tX12_trace_26  l1 l2 v2 M) rfl
  · refine K_bipush (q := 15) (v := nI 100) dX12_trace_13 rfl rfl ?_
    refine J_goto (tgt := 26) dX12_trace_15 rfl ?_
    exact J_sub [0, 1, 2] (tX12_trace_26  l1 l2 (nI 100) M) rfl
theorem dX12_fieldOf_0 : decode cX12_fieldOf 0 = .ok (.iload_n 1, 1) := by decide +kernel
theorem dX12_fieldOf_1 : decode cX12_fieldOf 1 = .ok (.sipush 512, 3) := by decide +kernel
theorem dX12_fieldOf_4 : decode cX12_fieldOf 4 = .ok (.if_icmp .ge 15, 3) := by decide +kernel
theorem dX12_fieldOf_7 : decode cX12_fieldOf 7 = .ok (.aload_n 0, 1) := by decide +kernel
theorem dX12_fieldOf_8 : decode cX12_fieldOf 8 = .ok (.getfield 9, 3) := by decide +kernel
theorem dX12_fieldOf_11 : decode cX12_fieldOf 11 = .ok (.bipush 14, 2) := by decide +kernel
theorem dX12_fieldOf_13 : decode cX12_fieldOf 13 = .ok (.iload_n 1, 1) := by decide +kernel
theorem dX12_fieldOf_14 : decode cX12_fieldOf 14 = .ok (.iadd, 1) := by decide +kernel
theorem dX12_fieldOf_15 : decode cX12_fieldOf 15 = .ok (.iaload, 1) := by decide +kernel
theorem dX12_fieldOf_16 : decode cX12_fieldOf 16 = .ok (.goto 60, 3) := by decide +kernel
theorem dX12_fieldOf_19 : decode cX12_fieldOf 19 = .ok (.iload_n 1, 1) := by decide +kernel
theorem dX12_fieldOf_20 : decode cX12_fieldOf 20 = .ok (.sipush 512, 3) := by decide +kernel
theorem dX12_fieldOf_23 : decode cX12_fieldOf 23 = .ok (.if_icmp .ne 13, 3) := by decide +kernel
theorem dX12_fieldOf_26 : decode cX12_fieldOf 26 = .ok (.aload_n 0, 1) := by decide +kernel
theorem dX12_fieldOf_27 : decode cX12_fieldOf 27 = .ok (.getfield 9, 3) := by decide +kernel
theorem dX12_fieldOf_30 : decode cX12_fieldOf 30 = .ok (.bipush 7, 2) := by decide +kernel
theorem dX12_fieldOf_32 : decode cX12_fieldOf 32 = .ok (.iaload, 1) := by decide +kernel
theorem dX12_fieldOf_33 : decode cX12_fieldOf 33 = .ok (.goto 43, 3) := by decide +kernel
theorem dX12_fieldOf_36 : decode cX12_fieldOf 36 = .ok (.iload_n 1, 1) := by decide +kernel
theorem dX12_fieldOf_37 : decode cX12_fieldOf 37 = .ok (.sipush 512, 3) := by decide +kernel
theorem dX12_fieldOf_40 : decode cX12_fieldOf 40 = .ok (.isub, 1) := by decide +kernel
theorem dX12_fieldOf_41 : decode cX12_fieldOf 41 = .ok (.iconst 1, 1) := by decide +kernel
theorem dX12_fieldOf_42 : decode cX12_fieldOf 42 = .ok (.isub, 1) := by decide +kernel
theorem dX12_fieldOf_43 : decode cX12_fieldOf 43 = .ok (.bipush 9, 2) := by decide +kernel
theorem dX12_fieldOf_45 : decode cX12_fieldOf 45 = .ok (.aload_n 0, 1) := by decide +kernel
theorem dX12_fieldOf_46 : decode cX12_fieldOf 46 = .ok (.getfield 9, 3) := by decide +kernel
theorem dX12_fieldOf_49 : decode cX12_fieldOf 49 = .ok (.bipush 7, 2) := by decide +kernel
theorem dX12_fieldOf_51 : decode cX12_fieldOf 51 = .ok (.iaload, 1) := by decide +kernel
theorem dX12_fieldOf_52 : decode cX12_fieldOf 52 = .ok (.imul, 1) := by decide +kernel
theorem dX12_fieldOf_53 : decode cX12_fieldOf 53 = .ok (.if_icmp .ge 22, 3) := by decide +kernel
theorem dX12_fieldOf_56 : decode cX12_fieldOf 56 = .ok (.aload_n 0, 1) := by decide +kernel
theorem dX12_fieldOf_57 : decode cX12_fieldOf 57 = .ok (.getfield 9, 3) := by decide +kernel
theorem dX12_fieldOf_60 : decode cX12_fieldOf 60 = .ok (.sipush 586, 3) := by decide +kernel
theorem dX12_fieldOf_63 : decode cX12_fieldOf 63 = .ok (.iload_n 1, 1) := by decide +kernel
theorem dX12_fieldOf_64 : decode cX12_fieldOf 64 = .ok (.iadd, 1) := by decide +kernel
theorem dX12_fieldOf_65 : decode cX12_fieldOf 65 = .ok (.sipush 512, 3) := by decide +kernel
theorem dX12_fieldOf_68 : decode cX12_fieldOf 68 = .ok (.isub, 1) := by decide +kernel
theorem dX12_fieldOf_69 : decode cX12_fieldOf 69 = .ok (.iconst 1, 1) := by decide +kernel
theorem dX12_fieldOf_70 : decode cX12_fieldOf 70 = .ok (.isub, 1) := by decide +kernel
theorem dX12_fieldOf_71 : decode cX12_fieldOf 71 = .ok (.iaload, 1) := by decide +kernel
theorem dX12_fieldOf_72 : decode cX12_fieldOf 72 = .ok (.goto 4, 3) := by decide +kernel
theorem dX12_fieldOf_75 : decode cX12_fieldOf 75 = .ok (.iconst 0, 1) := by decide +kernel
theorem dX12_fieldOf_76 : decode cX12_fieldOf 76 = .ok (.ireturn, 1) := by decide +kernel
def xX12_fieldOf  (l1 : Int32) (M : j_M) : Option (Int32 × j_M) := (if (nI 512) ≤ l1 then (if l1 = (nI 512) then gd (nI 7) 7460 (oli (M 201 (ix (nI 7))) fun v3 => some (v3, M)) else gd (nI 7) 7460 (oli (M 201 (ix (nI 7))) fun v1 => (if ((nI 9) * v1) ≤ ((l1 - (nI 512)) - (nI 1)) then some ((nI 0), M) else gd ((((nI 586) + l1) - (nI 512)) - (nI 1)) 7460 (oli (M 201 (ix ((((nI 586) + l1) - (nI 512)) - (nI 1)))) fun v2 => some (v2, M))))) else gd ((nI 14) + l1) 7460 (oli (M 201 (ix ((nI 14) + l1))) fun v4 => some (v4, M)))
set_option maxRecDepth 20000 in
set_option maxHeartbeats 2000000 in
theorem tX12_fieldOf  (l1 : Int32) (M : j_M) : J (ρ := Int32 × j_M) yX12_fieldOf cX12_fieldOf 2 (some .int) 0 0 j_ei 0 [(0, .inr (17, 0, 200)), (1, .inl (l1))] [] M (xX12_fieldOf  l1 M) := by
  unfold xX12_fieldOf
  refine K_iload_n (q := 1) 1 dX12_fieldOf_0 rfl rfl rfl ?_
  refine K_sipush (q := 4) (v := nI 512) dX12_fieldOf_1 rfl rfl ?_
  refine K_icmp_ge (q := 7) (tgt := 19) dX12_fieldOf_4 rfl ?_ rfl ?_
  · refine K_iload_n (q := 20) 1 dX12_fieldOf_19 rfl rfl rfl ?_
    refine K_sipush (q := 23) (v := nI 512) dX12_fieldOf_20 rfl rfl ?_
    refine K_icmp_ne (q := 26) (tgt := 36) dX12_fieldOf_23 rfl ?_ rfl ?_
    · refine K_iload_n (q := 37) 1 dX12_fieldOf_36 rfl rfl rfl ?_
      refine K_sipush (q := 40) (v := nI 512) dX12_fieldOf_37 rfl rfl ?_
      refine K_isub (q := 41) dX12_fieldOf_40 rfl ?_
      refine K_iconst (q := 42) (v := nI 1) dX12_fieldOf_41 rfl rfl ?_
      refine K_isub (q := 43) dX12_fieldOf_42 rfl ?_
      refine K_bipush (q := 45) (v := nI 9) dX12_fieldOf_43 rfl rfl ?_
      refine K_aload_n (q := 46) 0 dX12_fieldOf_45 rfl rfl rfl ?_
      refine K_getR (q := 49) (ci := 7) (a2 := 201) 0 dX12_fieldOf_46 fRX12_9 rfl rfl (by decide) rfl rfl ?_
      refine K_bipush (q := 51) (v := nI 7) dX12_fieldOf_49 rfl rfl ?_
      refine K_iald (q := 52) dX12_fieldOf_51 rfl (fun v1 => ?_)
      refine K_imul (q := 53) dX12_fieldOf_52 rfl ?_
      refine K_icmp_ge (q := 56) (tgt := 75) dX12_fieldOf_53 rfl ?_ rfl ?_
      · refine K_iconst (q := 76) (v := nI 0) dX12_fieldOf_75 rfl rfl ?_
        exact J_iret dX12_fieldOf_76
      · refine K_aload_n (q := 57) 0 dX12_fieldOf_56 rfl rfl rfl ?_
        refine K_getR (q := 60) (ci := 7) (a2 := 201) 0 dX12_fieldOf_57 fRX12_9 rfl rfl (by decide) rfl rfl ?_
        refine K_sipush (q := 63) (v := nI 586) dX12_fieldOf_60 rfl rfl ?_
        refine K_iload_n (q := 64) 1 dX12_fieldOf_63 rfl rfl rfl ?_
        refine K_iadd (q := 65) dX12_fieldOf_64 rfl ?_
        refine K_sipush (q := 68) (v := nI 512) dX12_fieldOf_65 rfl rfl ?_
        refine K_isub (q := 69) dX12_fieldOf_68 rfl ?_
        refine K_iconst (q := 70) (v := nI 1) dX12_fieldOf_69 rfl rfl ?_
        refine K_isub (q := 71) dX12_fieldOf_70 rfl ?_
        refine K_iald (q := 72) dX12_fieldOf_71 rfl (fun v2 => ?_)
        refine J_goto (tgt := 76) dX12_fieldOf_72 rfl ?_
        exact J_iret dX12_fieldOf_76
    · refine K_aload_n (q := 27) 0 dX12_fieldOf_26 rfl rfl rfl ?_
      refine K_getR (q := 30) (ci := 7) (a2 := 201) 0 dX12_fieldOf_27 fRX12_9 rfl rfl (by decide) rfl rfl ?_
      refine K_bipush (q := 32) (v := nI 7) dX12_fieldOf_30 rfl rfl ?_
      refine K_iald (q := 33) dX12_fieldOf_32 rfl (fun v3 => ?_)
      refine J_goto (tgt := 76) dX12_fieldOf_33 rfl ?_
      exact J_iret dX12_fieldOf_76
  · refine K_aload_n (q := 8) 0 dX12_fieldOf_7 rfl rfl rfl ?_
    refine K_getR (q := 11) (ci := 7) (a2 := 201) 0 dX12_fieldOf_8 fRX12_9 rfl rfl (by decide) rfl rfl ?_
    refine K_bipush (q := 13) (v := nI 14) dX12_fieldOf_11 rfl rfl ?_
    refine K_iload_n (q := 14) 1 dX12_fieldOf_13 rfl rfl rfl ?_
    refine K_iadd (q := 15) dX12_fieldOf_14 rfl ?_
    refine K_iald (q := 16) dX12_fieldOf_15 rfl (fun v4 => ?_)
    refine J_goto (tgt := 76) dX12_fieldOf_16 rfl ?_
    exact J_iret dX12_fieldOf_76
theorem dX12_isState_0 : decode cX12_isState 0 = .ok (.iconst 0, 1) := by decide +kernel
theorem dX12_isState_1 : decode cX12_isState 1 = .ok (.istore_n 2, 1) := by decide +kernel
theorem dX12_isState_2 : decode cX12_isState 2 = .ok (.iload_n 2, 1) := by decide +kernel
theorem dX12_isState_3 : decode cX12_isState 3 = .ok (.sipush 729, 3) := by decide +kernel
theorem dX12_isState_6 : decode cX12_isState 6 = .ok (.if_icmp .ge 31, 3) := by decide +kernel
theorem dX12_isState_9 : decode cX12_isState 9 = .ok (.aload_n 0, 1) := by decide +kernel
theorem dX12_isState_10 : decode cX12_isState 10 = .ok (.getfield 46, 3) := by decide +kernel
theorem dX12_isState_13 : decode cX12_isState 13 = .ok (.sipush 729, 3) := by decide +kernel
theorem dX12_isState_16 : decode cX12_isState 16 = .ok (.iload_n 1, 1) := by decide +kernel
theorem dX12_isState_17 : decode cX12_isState 17 = .ok (.imul, 1) := by decide +kernel
theorem dX12_isState_18 : decode cX12_isState 18 = .ok (.iload_n 2, 1) := by decide +kernel
theorem dX12_isState_19 : decode cX12_isState 19 = .ok (.iadd, 1) := by decide +kernel
theorem dX12_isState_20 : decode cX12_isState 20 = .ok (.iaload, 1) := by decide +kernel
theorem dX12_isState_21 : decode cX12_isState 21 = .ok (.aload_n 0, 1) := by decide +kernel
theorem dX12_isState_22 : decode cX12_isState 22 = .ok (.iload_n 2, 1) := by decide +kernel
theorem dX12_isState_23 : decode cX12_isState 23 = .ok (.invokevirtual 389, 3) := by decide +kernel
theorem dX12_isState_26 : decode cX12_isState 26 = .ok (.if_icmp .eq 5, 3) := by decide +kernel
theorem dX12_isState_29 : decode cX12_isState 29 = .ok (.iconst 0, 1) := by decide +kernel
theorem dX12_isState_30 : decode cX12_isState 30 = .ok (.ireturn, 1) := by decide +kernel
theorem dX12_isState_31 : decode cX12_isState 31 = .ok (.iinc 2 1, 3) := by decide +kernel
theorem dX12_isState_34 : decode cX12_isState 34 = .ok (.goto (-32), 3) := by decide +kernel
theorem dX12_isState_37 : decode cX12_isState 37 = .ok (.iconst 1, 1) := by decide +kernel
theorem dX12_isState_38 : decode cX12_isState 38 = .ok (.ireturn, 1) := by decide +kernel
def xX12_isState_2   : Nat → Int32 → Int32 → j_M → Option (Int32 × j_M)
  | 0, _, _, _ => none
  | n + 1, l1, l2, M => (if (nI 729) ≤ l2 then some ((nI 1), M) else gd (((nI 729) * l1) + l2) 182979 (oli (M 211 (ix (((nI 729) * l1) + l2))) fun v1 => obi (xX12_fieldOf l2 M) fun v3 M2 => (if v1 = v3 then xX12_isState_2  n l1 (l2 + (nI 1)) M2 else some ((nI 0), M2))))
set_option maxRecDepth 20000 in
set_option maxHeartbeats 2000000 in
theorem tX12_isState_2    : ∀ (n : Nat) (l1 : Int32) (l2 : Int32) (M : j_M), J (ρ := Int32 × j_M) yX12_isState cX12_isState 3 (some .boolean) 1 21 j_ei 2 [(0, .inr (17, 0, 200)), (1, .inl (l1)), (2, .inl (l2))] [] M (xX12_isState_2  n l1 l2 M) := by
  intro n
  induction n with
  | zero => intros; exact J_none
  | succ n ih =>
    intro l1 l2 M
    rw [xX12_isState_2.eq_2]
    refine K_iload_n (q := 3) 2 dX12_isState_2 rfl rfl rfl ?_
    refine K_sipush (q := 6) (v := nI 729) dX12_isState_3 rfl rfl ?_
    refine K_icmp_ge (q := 9) (tgt := 37) dX12_isState_6 rfl ?_ rfl ?_
    · refine K_iconst (q := 38) (v := nI 1) dX12_isState_37 rfl rfl ?_
      exact J_zret dX12_isState_38 (by decide)
    · refine K_aload_n (q := 10) 0 dX12_isState_9 rfl rfl rfl ?_
      refine K_getR (q := 13) (ci := 7) (a2 := 211) 24 dX12_isState_10 fRX12_46 rfl rfl (by decide) rfl rfl ?_
      refine K_sipush (q := 16) (v := nI 729) dX12_isState_13 rfl rfl ?_
      refine K_iload_n (q := 17) 1 dX12_isState_16 rfl rfl rfl ?_
      refine K_imul (q := 18) dX12_isState_17 rfl ?_
      refine K_iload_n (q := 19) 2 dX12_isState_18 rfl rfl rfl ?_
      refine K_iadd (q := 20) dX12_isState_19 rfl ?_
      refine K_iald (q := 21) dX12_isState_20 rfl (fun v1 => ?_)
      refine K_aload_n (q := 22) 0 dX12_isState_21 rfl rfl rfl ?_
      refine K_iload_n (q := 23) 2 dX12_isState_22 rfl rfl rfl ?_
      refine K_cvi (q := 26) [.inl (l2)] dX12_isState_23 cb_X12_fieldOf cvRX12_389 rc_7 (show (17 : Nat) ≠ 0 by decide) rfl (Nat.le_of_ble_eq_true rfl) ⟨by decide, by decide⟩ (Nat.le_of_ble_eq_true rfl) rfl (tX12_fieldOf l2 M) rfl (fun v3 M2 => ?_)
      refine K_icmp_eq (q := 29) (tgt := 31) dX12_isState_26 rfl ?_ rfl ?_
      · refine K_iinc (q := 34) (v := l2 + (nI 1)) (ll' := [(2, .inl (l2 + (nI 1))), (0, .inr (17, 0, 200)), (1, .inl (l1))]) 2 dX12_isState_31 rfl rfl (by decide) rfl rfl ?_
        refine J_goto (tgt := 2) dX12_isState_34 rfl ?_
        exact J_sub [1, 2, 0] (ih l1 (l2 + (nI 1)) M2) rfl
      · refine K_iconst (q := 30) (v := nI 0) dX12_isState_29 rfl rfl ?_
        exact J_zret dX12_isState_30 (by decide)
def xX12_isState  (l1 : Int32) (M : j_M) : Option (Int32 × j_M) := xX12_isState_2 fu l1 (nI 0) M
set_option maxRecDepth 20000 in
set_option maxHeartbeats 2000000 in
theorem tX12_isState  (l1 : Int32) (M : j_M) : J (ρ := Int32 × j_M) yX12_isState cX12_isState 3 (some .boolean) 1 21 j_ei 0 [(0, .inr (17, 0, 200)), (1, .inl (l1))] [] M (xX12_isState  l1 M) := by
  unfold xX12_isState
  refine K_iconst (q := 1) (v := nI 0) dX12_isState_0 rfl rfl ?_
  refine K_istore_n (q := 2) (ll' := [(2, .inl ((nI 0))), (0, .inr (17, 0, 200)), (1, .inl (l1))]) dX12_isState_1 rfl (by decide) rfl rfl ?_
  exact J_sub [1, 2, 0] (tX12_isState_2 fu l1 (nI 0) M) rfl
theorem dX12_isBehind_0 : decode cX12_isBehind 0 = .ok (.iconst 0, 1) := by decide +kernel
theorem dX12_isBehind_1 : decode cX12_isBehind 1 = .ok (.istore_n 3, 1) := by decide +kernel
theorem dX12_isBehind_2 : decode cX12_isBehind 2 = .ok (.iload_n 3, 1) := by decide +kernel
theorem dX12_isBehind_3 : decode cX12_isBehind 3 = .ok (.bipush 9, 2) := by decide +kernel
theorem dX12_isBehind_5 : decode cX12_isBehind 5 = .ok (.if_icmp .ge 45, 3) := by decide +kernel
theorem dX12_isBehind_8 : decode cX12_isBehind 8 = .ok (.aload_n 0, 1) := by decide +kernel
theorem dX12_isBehind_9 : decode cX12_isBehind 9 = .ok (.iload_n 1, 1) := by decide +kernel
theorem dX12_isBehind_10 : decode cX12_isBehind 10 = .ok (.iload_n 3, 1) := by decide +kernel
theorem dX12_isBehind_11 : decode cX12_isBehind 11 = .ok (.invokevirtual 79, 3) := by decide +kernel
theorem dX12_isBehind_14 : decode cX12_isBehind 14 = .ok (.aload_n 0, 1) := by decide +kernel
theorem dX12_isBehind_15 : decode cX12_isBehind 15 = .ok (.iload_n 2, 1) := by decide +kernel
theorem dX12_isBehind_16 : decode cX12_isBehind 16 = .ok (.iload_n 3, 1) := by decide +kernel
theorem dX12_isBehind_17 : decode cX12_isBehind 17 = .ok (.invokevirtual 79, 3) := by decide +kernel
theorem dX12_isBehind_20 : decode cX12_isBehind 20 = .ok (.if_icmp .eq 24, 3) := by decide +kernel
theorem dX12_isBehind_23 : decode cX12_isBehind 23 = .ok (.aload_n 0, 1) := by decide +kernel
theorem dX12_isBehind_24 : decode cX12_isBehind 24 = .ok (.iload_n 1, 1) := by decide +kernel
theorem dX12_isBehind_25 : decode cX12_isBehind 25 = .ok (.iload_n 3, 1) := by decide +kernel
theorem dX12_isBehind_26 : decode cX12_isBehind 26 = .ok (.invokevirtual 79, 3) := by decide +kernel
theorem dX12_isBehind_29 : decode cX12_isBehind 29 = .ok (.aload_n 0, 1) := by decide +kernel
theorem dX12_isBehind_30 : decode cX12_isBehind 30 = .ok (.iload_n 2, 1) := by decide +kernel
theorem dX12_isBehind_31 : decode cX12_isBehind 31 = .ok (.iload_n 3, 1) := by decide +kernel
theorem dX12_isBehind_32 : decode cX12_isBehind 32 = .ok (.invokevirtual 79, 3) := by decide +kernel
theorem dX12_isBehind_35 : decode cX12_isBehind 35 = .ok (.if_icmp .le 7, 3) := by decide +kernel
theorem dX12_isBehind_38 : decode cX12_isBehind 38 = .ok (.iconst 1, 1) := by decide +kernel
theorem dX12_isBehind_39 : decode cX12_isBehind 39 = .ok (.goto 4, 3) := by decide +kernel
theorem dX12_isBehind_42 : decode cX12_isBehind 42 = .ok (.iconst 0, 1) := by decide +kernel
theorem dX12_isBehind_43 : decode cX12_isBehind 43 = .ok (.ireturn, 1) := by decide +kernel
theorem dX12_isBehind_44 : decode cX12_isBehind 44 = .ok (.iinc 3 1, 3) := by decide +kernel
theorem dX12_isBehind_47 : decode cX12_isBehind 47 = .ok (.goto (-45), 3) := by decide +kernel
theorem dX12_isBehind_50 : decode cX12_isBehind 50 = .ok (.iconst 0, 1) := by decide +kernel
theorem dX12_isBehind_51 : decode cX12_isBehind 51 = .ok (.ireturn, 1) := by decide +kernel
def xX12_isBehind_2   : Nat → Int32 → Int32 → Int32 → j_M → Option (Int32 × j_M)
  | 0, _, _, _, _ => none
  | n + 1, l1, l2, l3, M => (if (nI 9) ≤ l3 then some ((nI 0), M) else obi (xX12_of l1 l3 M) fun v2 M1 => obi (xX12_of l2 l3 M1) fun v4 M3 => (if v2 = v4 then xX12_isBehind_2  n l1 l2 (l3 + (nI 1)) M3 else obi (xX12_of l1 l3 M3) fun v6 M5 => obi (xX12_of l2 l3 M5) fun v8 M7 => (if v6 ≤ v8 then some ((nI 0), M7) else some ((nI 1), M7))))
set_option maxRecDepth 20000 in
set_option maxHeartbeats 2000000 in
theorem tX12_isBehind_2    : ∀ (n : Nat) (l1 : Int32) (l2 : Int32) (l3 : Int32) (M : j_M), J (ρ := Int32 × j_M) yX12_isBehind cX12_isBehind 4 (some .boolean) 1 22 j_ei 2 [(0, .inr (17, 0, 200)), (1, .inl (l1)), (2, .inl (l2)), (3, .inl (l3))] [] M (xX12_isBehind_2  n l1 l2 l3 M) := by
  intro n
  induction n with
  | zero => intros; exact J_none
  | succ n ih =>
    intro l1 l2 l3 M
    rw [xX12_isBehind_2.eq_2]
    refine K_iload_n (q := 3) 3 dX12_isBehind_2 rfl rfl rfl ?_
    refine K_bipush (q := 5) (v := nI 9) dX12_isBehind_3 rfl rfl ?_
    refine K_icmp_ge (q := 8) (tgt := 50) dX12_isBehind_5 rfl ?_ rfl ?_
    · refine K_iconst (q := 51) (v := nI 0) dX12_isBehind_50 rfl rfl ?_
      exact J_zret dX12_isBehind_51 (by decide)
    · refine K_aload_n (q := 9) 0 dX12_isBehind_8 rfl rfl rfl ?_
      refine K_iload_n (q := 10) 1 dX12_isBehind_9 rfl rfl rfl ?_
      refine K_iload_n (q := 11) 3 dX12_isBehind_10 rfl rfl rfl ?_
      refine K_cvi (q := 14) [.inl (l1), .inl (l3)] dX12_isBehind_11 cb_X12_of cvRX12_79 rc_7 (show (17 : Nat) ≠ 0 by decide) rfl (Nat.le_of_ble_eq_true rfl) ⟨by decide, by decide⟩ (Nat.le_of_ble_eq_true rfl) rfl (tX12_of l1 l3 M) rfl (fun v2 M1 => ?_)
      refine K_aload_n (q := 15) 0 dX12_isBehind_14 rfl rfl rfl ?_
      refine K_iload_n (q := 16) 2 dX12_isBehind_15 rfl rfl rfl ?_
      refine K_iload_n (q := 17) 3 dX12_isBehind_16 rfl rfl rfl ?_
      refine K_cvi (q := 20) [.inl (l2), .inl (l3)] dX12_isBehind_17 cb_X12_of cvRX12_79 rc_7 (show (17 : Nat) ≠ 0 by decide) rfl (Nat.le_of_ble_eq_true rfl) ⟨by decide, by decide⟩ (Nat.le_of_ble_eq_true rfl) rfl (tX12_of l2 l3 M1) rfl (fun v4 M3 => ?_)
      refine K_icmp_eq (q := 23) (tgt := 44) dX12_isBehind_20 rfl ?_ rfl ?_
      · refine K_iinc (q := 47) (v := l3 + (nI 1)) (ll' := [(3, .inl (l3 + (nI 1))), (0, .inr (17, 0, 200)), (1, .inl (l1)), (2, .inl (l2))]) 3 dX12_isBehind_44 rfl rfl (by decide) rfl rfl ?_
        refine J_goto (tgt := 2) dX12_isBehind_47 rfl ?_
        exact J_sub [1, 2, 3, 0] (ih l1 l2 (l3 + (nI 1)) M3) rfl
      · refine K_aload_n (q := 24) 0 dX12_isBehind_23 rfl rfl rfl ?_
        refine K_iload_n (q := 25) 1 dX12_isBehind_24 rfl rfl rfl ?_
        refine K_iload_n (q := 26) 3 dX12_isBehind_25 rfl rfl rfl ?_
        refine K_cvi (q := 29) [.inl (l1), .inl (l3)] dX12_isBehind_26 cb_X12_of cvRX12_79 rc_7 (show (17 : Nat) ≠ 0 by decide) rfl (Nat.le_of_ble_eq_true rfl) ⟨by decide, by decide⟩ (Nat.le_of_ble_eq_true rfl) rfl (tX12_of l1 l3 M3) rfl (fun v6 M5 => ?_)
        refine K_aload_n (q := 30) 0 dX12_isBehind_29 rfl rfl rfl ?_
        refine K_iload_n (q := 31) 2 dX12_isBehind_30 rfl rfl rfl ?_
        refine K_iload_n (q := 32) 3 dX12_isBehind_31 rfl rfl rfl ?_
        refine K_cvi (q := 35) [.inl (l2), .inl (l3)] dX12_isBehind_32 cb_X12_of cvRX12_79 rc_7 (show (17 : Nat) ≠ 0 by decide) rfl (Nat.le_of_ble_eq_true rfl) ⟨by decide, by decide⟩ (Nat.le_of_ble_eq_true rfl) rfl (tX12_of l2 l3 M5) rfl (fun v8 M7 => ?_)
        refine K_icmp_le (q := 38) (tgt := 42) dX12_isBehind_35 rfl ?_ rfl ?_
        · refine K_iconst (q := 43) (v := nI 0) dX12_isBehind_42 rfl rfl ?_
          exact J_zret dX12_isBehind_43 (by decide)
        · refine K_iconst (q := 39) (v := nI 1) dX12_isBehind_38 rfl rfl ?_
          refine J_goto (tgt := 43) dX12_isBehind_39 rfl ?_
          exact J_zret dX12_isBehind_43 (by decide)
def xX12_isBehind  (l1 : Int32) (l2 : Int32) (M : j_M) : Option (Int32 × j_M) := xX12_isBehind_2 fu l1 l2 (nI 0) M
set_option maxRecDepth 20000 in
set_option maxHeartbeats 2000000 in
theorem tX12_isBehind  (l1 : Int32) (l2 : Int32) (M : j_M) : J (ρ := Int32 × j_M) yX12_isBehind cX12_isBehind 4 (some .boolean) 1 22 j_ei 0 [(0, .inr (17, 0, 200)), (1, .inl (l1)), (2, .inl (l2))] [] M (xX12_isBehind  l1 l2 M) := by
  unfold xX12_isBehind
  refine K_iconst (q := 1) (v := nI 0) dX12_isBehind_0 rfl rfl ?_
  refine K_istore_n (q := 2) (ll' := [(3, .inl ((nI 0))), (0, .inr (17, 0, 200)), (1, .inl (l1)), (2, .inl (l2))]) dX12_isBehind_1 rfl (by decide) rfl rfl ?_
  exact J_sub [1, 2, 3, 0] (tX12_isBehind_2 fu l1 l2 (nI 0) M) rfl
theorem dX12_swaps_0 : decode cX12_swaps 0 = .ok (.iconst 0, 1) := by decide +kernel
theorem dX12_swaps_1 : decode cX12_swaps 1 = .ok (.istore_n 3, 1) := by decide +kernel
theorem dX12_swaps_2 : decode cX12_swaps 2 = .ok (.iload_n 3, 1) := by decide +kernel
theorem dX12_swaps_3 : decode cX12_swaps 3 = .ok (.bipush 9, 2) := by decide +kernel
theorem dX12_swaps_5 : decode cX12_swaps 5 = .ok (.if_icmp .ge 55, 3) := by decide +kernel
theorem dX12_swaps_8 : decode cX12_swaps 8 = .ok (.aload_n 0, 1) := by decide +kernel
theorem dX12_swaps_9 : decode cX12_swaps 9 = .ok (.iload_n 1, 1) := by decide +kernel
theorem dX12_swaps_10 : decode cX12_swaps 10 = .ok (.iload_n 3, 1) := by decide +kernel
theorem dX12_swaps_11 : decode cX12_swaps 11 = .ok (.invokevirtual 79, 3) := by decide +kernel
theorem dX12_swaps_14 : decode cX12_swaps 14 = .ok (.istore 4, 2) := by decide +kernel
theorem dX12_swaps_16 : decode cX12_swaps 16 = .ok (.aload_n 0, 1) := by decide +kernel
theorem dX12_swaps_17 : decode cX12_swaps 17 = .ok (.getfield 9, 3) := by decide +kernel
theorem dX12_swaps_20 : decode cX12_swaps 20 = .ok (.sipush 586, 3) := by decide +kernel
theorem dX12_swaps_23 : decode cX12_swaps 23 = .ok (.bipush 9, 2) := by decide +kernel
theorem dX12_swaps_25 : decode cX12_swaps 25 = .ok (.iload_n 1, 1) := by decide +kernel
theorem dX12_swaps_26 : decode cX12_swaps 26 = .ok (.imul, 1) := by decide +kernel
theorem dX12_swaps_27 : decode cX12_swaps 27 = .ok (.iadd, 1) := by decide +kernel
theorem dX12_swaps_28 : decode cX12_swaps 28 = .ok (.iload_n 3, 1) := by decide +kernel
theorem dX12_swaps_29 : decode cX12_swaps 29 = .ok (.iadd, 1) := by decide +kernel
theorem dX12_swaps_30 : decode cX12_swaps 30 = .ok (.aload_n 0, 1) := by decide +kernel
theorem dX12_swaps_31 : decode cX12_swaps 31 = .ok (.iload_n 2, 1) := by decide +kernel
theorem dX12_swaps_32 : decode cX12_swaps 32 = .ok (.iload_n 3, 1) := by decide +kernel
theorem dX12_swaps_33 : decode cX12_swaps 33 = .ok (.invokevirtual 79, 3) := by decide +kernel
theorem dX12_swaps_36 : decode cX12_swaps 36 = .ok (.iastore, 1) := by decide +kernel
theorem dX12_swaps_37 : decode cX12_swaps 37 = .ok (.aload_n 0, 1) := by decide +kernel
theorem dX12_swaps_38 : decode cX12_swaps 38 = .ok (.getfield 9, 3) := by decide +kernel
theorem dX12_swaps_41 : decode cX12_swaps 41 = .ok (.sipush 586, 3) := by decide +kernel
theorem dX12_swaps_44 : decode cX12_swaps 44 = .ok (.bipush 9, 2) := by decide +kernel
theorem dX12_swaps_46 : decode cX12_swaps 46 = .ok (.iload_n 2, 1) := by decide +kernel
theorem dX12_swaps_47 : decode cX12_swaps 47 = .ok (.imul, 1) := by decide +kernel
theorem dX12_swaps_48 : decode cX12_swaps 48 = .ok (.iadd, 1) := by decide +kernel
theorem dX12_swaps_49 : decode cX12_swaps 49 = .ok (.iload_n 3, 1) := by decide +kernel
theorem dX12_swaps_50 : decode cX12_swaps 50 = .ok (.iadd, 1) := by decide +kernel
theorem dX12_swaps_51 : decode cX12_swaps 51 = .ok (.iload 4, 2) := by decide +kernel
theorem dX12_swaps_53 : decode cX12_swaps 53 = .ok (.iastore, 1) := by decide +kernel
theorem dX12_swaps_54 : decode cX12_swaps 54 = .ok (.iinc 3 1, 3) := by decide +kernel
theorem dX12_swaps_57 : decode cX12_swaps 57 = .ok (.goto (-55), 3) := by decide +kernel
theorem dX12_swaps_60 : decode cX12_swaps 60 = .ok (.return_, 1) := by decide +kernel
def xX12_swaps_2   : Nat → Int32 → Int32 → Int32 → j_M → Option (j_M)
  | 0, _, _, _, _ => none
  | n + 1, l1, l2, l3, M => (if (nI 9) ≤ l3 then some M else obi (xX12_of l1 l3 M) fun v2 M1 => obi (xX12_of l2 l3 M1) fun v4 M3 => gd (((nI 586) + ((nI 9) * l1)) + l3) 7460 (oml (mw M3 201 (ix (((nI 586) + ((nI 9) * l1)) + l3)) v4) fun M5 => gd (((nI 586) + ((nI 9) * l2)) + l3) 7460 (oml (mw M5 201 (ix (((nI 586) + ((nI 9) * l2)) + l3)) v2) fun M6 => xX12_swaps_2  n l1 l2 (l3 + (nI 1)) M6)))
set_option maxRecDepth 20000 in
set_option maxHeartbeats 2000000 in
theorem tX12_swaps_2    : ∀ (n : Nat) (l1 : Int32) (l2 : Int32) (l3 : Int32) (M : j_M), J (ρ := j_M) yX12_swaps cX12_swaps 5 none 1 22 j_ev 2 [(0, .inr (17, 0, 200)), (1, .inl (l1)), (2, .inl (l2)), (3, .inl (l3))] [] M (xX12_swaps_2  n l1 l2 l3 M) := by
  intro n
  induction n with
  | zero => intros; exact J_none
  | succ n ih =>
    intro l1 l2 l3 M
    rw [xX12_swaps_2.eq_2]
    refine K_iload_n (q := 3) 3 dX12_swaps_2 rfl rfl rfl ?_
    refine K_bipush (q := 5) (v := nI 9) dX12_swaps_3 rfl rfl ?_
    refine K_icmp_ge (q := 8) (tgt := 60) dX12_swaps_5 rfl ?_ rfl ?_
    · exact J_vret dX12_swaps_60
    · refine K_aload_n (q := 9) 0 dX12_swaps_8 rfl rfl rfl ?_
      refine K_iload_n (q := 10) 1 dX12_swaps_9 rfl rfl rfl ?_
      refine K_iload_n (q := 11) 3 dX12_swaps_10 rfl rfl rfl ?_
      refine K_cvi (q := 14) [.inl (l1), .inl (l3)] dX12_swaps_11 cb_X12_of cvRX12_79 rc_7 (show (17 : Nat) ≠ 0 by decide) rfl (Nat.le_of_ble_eq_true rfl) ⟨by decide, by decide⟩ (Nat.le_of_ble_eq_true rfl) rfl (tX12_of l1 l3 M) rfl (fun v2 M1 => ?_)
      refine K_istore (q := 16) (ll' := [(4, .inl (v2)), (0, .inr (17, 0, 200)), (1, .inl (l1)), (2, .inl (l2)), (3, .inl (l3))]) dX12_swaps_14 (by decide) rfl rfl ?_
      refine K_aload_n (q := 17) 1 dX12_swaps_16 rfl rfl rfl ?_
      refine K_getR (q := 20) (ci := 7) (a2 := 201) 0 dX12_swaps_17 fRX12_9 rfl rfl (by decide) rfl rfl ?_
      refine K_sipush (q := 23) (v := nI 586) dX12_swaps_20 rfl rfl ?_
      refine K_bipush (q := 25) (v := nI 9) dX12_swaps_23 rfl rfl ?_
      refine K_iload_n (q := 26) 2 dX12_swaps_25 rfl rfl rfl ?_
      refine K_imul (q := 27) dX12_swaps_26 rfl ?_
      refine K_iadd (q := 28) dX12_swaps_27 rfl ?_
      refine K_iload_n (q := 29) 4 dX12_swaps_28 rfl rfl rfl ?_
      refine K_iadd (q := 30) dX12_swaps_29 rfl ?_
      refine K_aload_n (q := 31) 1 dX12_swaps_30 rfl rfl rfl ?_
      refine K_iload_n (q := 32) 3 dX12_swaps_31 rfl rfl rfl ?_
      refine K_iload_n (q := 33) 4 dX12_swaps_32 rfl rfl rfl ?_
      refine K_cvi (q := 36) [.inl (l2), .inl (l3)] dX12_swaps_33 cb_X12_of cvRX12_79 rc_7 (show (17 : Nat) ≠ 0 by decide) rfl (Nat.le_of_ble_eq_true rfl) ⟨by decide, by decide⟩ (Nat.le_of_ble_eq_true rfl) rfl (tX12_of l2 l3 M1) rfl (fun v4 M3 => ?_)
      refine K_iast (q := 37) dX12_swaps_36 rfl (fun M5 => ?_)
      refine K_aload_n (q := 38) 1 dX12_swaps_37 rfl rfl rfl ?_
      refine K_getR (q := 41) (ci := 7) (a2 := 201) 0 dX12_swaps_38 fRX12_9 rfl rfl (by decide) rfl rfl ?_
      refine K_sipush (q := 44) (v := nI 586) dX12_swaps_41 rfl rfl ?_
      refine K_bipush (q := 46) (v := nI 9) dX12_swaps_44 rfl rfl ?_
      refine K_iload_n (q := 47) 3 dX12_swaps_46 rfl rfl rfl ?_
      refine K_imul (q := 48) dX12_swaps_47 rfl ?_
      refine K_iadd (q := 49) dX12_swaps_48 rfl ?_
      refine K_iload_n (q := 50) 4 dX12_swaps_49 rfl rfl rfl ?_
      refine K_iadd (q := 51) dX12_swaps_50 rfl ?_
      refine K_iload (q := 53) 0 dX12_swaps_51 rfl rfl ?_
      refine K_iast (q := 54) dX12_swaps_53 rfl (fun M6 => ?_)
      refine K_iinc (q := 57) (v := l3 + (nI 1)) (ll' := [(3, .inl (l3 + (nI 1))), (4, .inl (v2)), (0, .inr (17, 0, 200)), (1, .inl (l1)), (2, .inl (l2))]) 4 dX12_swaps_54 rfl rfl (by decide) rfl rfl ?_
      refine J_goto (tgt := 2) dX12_swaps_57 rfl ?_
      exact J_sub [2, 3, 4, 0] (ih l1 l2 (l3 + (nI 1)) M6) rfl
def xX12_swaps  (l1 : Int32) (l2 : Int32) (M : j_M) : Option (j_M) := xX12_swaps_2 fu l1 l2 (nI 0) M
set_option maxRecDepth 20000 in
set_option maxHeartbeats 2000000 in
theorem tX12_swaps  (l1 : Int32) (l2 : Int32) (M : j_M) : J (ρ := j_M) yX12_swaps cX12_swaps 5 none 1 22 j_ev 0 [(0, .inr (17, 0, 200)), (1, .inl (l1)), (2, .inl (l2))] [] M (xX12_swaps  l1 l2 M) := by
  unfold xX12_swaps
  refine K_iconst (q := 1) (v := nI 0) dX12_swaps_0 rfl rfl ?_
  refine K_istore_n (q := 2) (ll' := [(3, .inl ((nI 0))), (0, .inr (17, 0, 200)), (1, .inl (l1)), (2, .inl (l2))]) dX12_swaps_1 rfl (by decide) rfl rfl ?_
  exact J_sub [1, 2, 3, 0] (tX12_swaps_2 fu l1 l2 (nI 0) M) rfl
theorem dX12_sorts_0 : decode cX12_sorts 0 = .ok (.iconst 1, 1) := by decide +kernel
theorem dX12_sorts_1 : decode cX12_sorts 1 = .ok (.istore_n 1, 1) := by decide +kernel
theorem dX12_sorts_2 : decode cX12_sorts 2 = .ok (.iload_n 1, 1) := by decide +kernel
theorem dX12_sorts_3 : decode cX12_sorts 3 = .ok (.aload_n 0, 1) := by decide +kernel
theorem dX12_sorts_4 : decode cX12_sorts 4 = .ok (.getfield 9, 3) := by decide +kernel
theorem dX12_sorts_7 : decode cX12_sorts 7 = .ok (.bipush 7, 2) := by decide +kernel
theorem dX12_sorts_9 : decode cX12_sorts 9 = .ok (.iaload, 1) := by decide +kernel
theorem dX12_sorts_10 : decode cX12_sorts 10 = .ok (.if_icmp .ge 40, 3) := by decide +kernel
theorem dX12_sorts_13 : decode cX12_sorts 13 = .ok (.iload_n 1, 1) := by decide +kernel
theorem dX12_sorts_14 : decode cX12_sorts 14 = .ok (.istore_n 2, 1) := by decide +kernel
theorem dX12_sorts_15 : decode cX12_sorts 15 = .ok (.iload_n 2, 1) := by decide +kernel
theorem dX12_sorts_16 : decode cX12_sorts 16 = .ok (.ifCond .le 28, 3) := by decide +kernel
theorem dX12_sorts_19 : decode cX12_sorts 19 = .ok (.aload_n 0, 1) := by decide +kernel
theorem dX12_sorts_20 : decode cX12_sorts 20 = .ok (.iload_n 2, 1) := by decide +kernel
theorem dX12_sorts_21 : decode cX12_sorts 21 = .ok (.iconst 1, 1) := by decide +kernel
theorem dX12_sorts_22 : decode cX12_sorts 22 = .ok (.isub, 1) := by decide +kernel
theorem dX12_sorts_23 : decode cX12_sorts 23 = .ok (.iload_n 2, 1) := by decide +kernel
theorem dX12_sorts_24 : decode cX12_sorts 24 = .ok (.invokevirtual 383, 3) := by decide +kernel
theorem dX12_sorts_27 : decode cX12_sorts 27 = .ok (.ifCond .eq 17, 3) := by decide +kernel
theorem dX12_sorts_30 : decode cX12_sorts 30 = .ok (.aload_n 0, 1) := by decide +kernel
theorem dX12_sorts_31 : decode cX12_sorts 31 = .ok (.iload_n 2, 1) := by decide +kernel
theorem dX12_sorts_32 : decode cX12_sorts 32 = .ok (.iconst 1, 1) := by decide +kernel
theorem dX12_sorts_33 : decode cX12_sorts 33 = .ok (.isub, 1) := by decide +kernel
theorem dX12_sorts_34 : decode cX12_sorts 34 = .ok (.iload_n 2, 1) := by decide +kernel
theorem dX12_sorts_35 : decode cX12_sorts 35 = .ok (.invokevirtual 386, 3) := by decide +kernel
theorem dX12_sorts_38 : decode cX12_sorts 38 = .ok (.iinc 2 (-1), 3) := by decide +kernel
theorem dX12_sorts_41 : decode cX12_sorts 41 = .ok (.goto (-26), 3) := by decide +kernel
theorem dX12_sorts_44 : decode cX12_sorts 44 = .ok (.iinc 1 1, 3) := by decide +kernel
theorem dX12_sorts_47 : decode cX12_sorts 47 = .ok (.goto (-45), 3) := by decide +kernel
theorem dX12_sorts_50 : decode cX12_sorts 50 = .ok (.return_, 1) := by decide +kernel
def xX12_sorts_15 (k2 : Int32 → j_M → Option (j_M))  : Nat → Int32 → Int32 → j_M → Option (j_M)
  | 0, _, _, _ => none
  | n + 1, l1, l2, M => (if l2 ≤ (0 : Int32) then k2 (l1 + (nI 1)) M else obi (xX12_isBehind (l2 - (nI 1)) l2 M) fun v2 M1 => (if v2 = (0 : Int32) then k2 (l1 + (nI 1)) M1 else obv (xX12_swaps (l2 - (nI 1)) l2 M1) fun M3 => xX12_sorts_15 k2 n l1 (l2 + (-1 : Int32)) M3))
set_option maxRecDepth 20000 in
set_option maxHeartbeats 2000000 in
theorem tX12_sorts_15 (k2 : Int32 → j_M → Option (j_M))  (hk2 : ∀ (l1 : Int32) (M : j_M), J (ρ := j_M) yX12_sorts cX12_sorts 3 none 2 46 j_ev 2 [(0, .inr (17, 0, 200)), (1, .inl (l1))] [] M (k2 l1 M)) : ∀ (n : Nat) (l1 : Int32) (l2 : Int32) (M : j_M), J (ρ := j_M) yX12_sorts cX12_sorts 3 none 2 46 j_ev 15 [(0, .inr (17, 0, 200)), (1, .inl (l1)), (2, .inl (l2))] [] M (xX12_sorts_15 k2 n l1 l2 M) := by
  intro n
  induction n with
  | zero => intros; exact J_none
  | succ n ih =>
    intro l1 l2 M
    rw [xX12_sorts_15.eq_2]
    refine K_iload_n (q := 16) 2 dX12_sorts_15 rfl rfl rfl ?_
    refine K_if_le (q := 19) (tgt := 44) dX12_sorts_16 rfl ?_ rfl ?_
    · refine K_iinc (q := 47) (v := l1 + (nI 1)) (ll' := [(1, .inl (l1 + (nI 1))), (0, .inr (17, 0, 200)), (2, .inl (l2))]) 1 dX12_sorts_44 rfl rfl (by decide) rfl rfl ?_
      refine J_goto (tgt := 2) dX12_sorts_47 rfl ?_
      exact J_sub [1, 0] (hk2 (l1 + (nI 1)) M) rfl
    · refine K_aload_n (q := 20) 0 dX12_sorts_19 rfl rfl rfl ?_
      refine K_iload_n (q := 21) 2 dX12_sorts_20 rfl rfl rfl ?_
      refine K_iconst (q := 22) (v := nI 1) dX12_sorts_21 rfl rfl ?_
      refine K_isub (q := 23) dX12_sorts_22 rfl ?_
      refine K_iload_n (q := 24) 2 dX12_sorts_23 rfl rfl rfl ?_
      refine K_cvi (q := 27) [.inl (l2 - (nI 1)), .inl (l2)] dX12_sorts_24 cb_X12_isBehind cvRX12_383 rc_7 (show (17 : Nat) ≠ 0 by decide) rfl (Nat.le_of_ble_eq_true rfl) ⟨by decide, by decide⟩ (Nat.le_of_ble_eq_true rfl) rfl (tX12_isBehind (l2 - (nI 1)) l2 M) rfl (fun v2 M1 => ?_)
      refine K_if_eq (q := 30) (tgt := 44) dX12_sorts_27 rfl ?_ rfl ?_
      · refine K_iinc (q := 47) (v := l1 + (nI 1)) (ll' := [(1, .inl (l1 + (nI 1))), (0, .inr (17, 0, 200)), (2, .inl (l2))]) 1 dX12_sorts_44 rfl rfl (by decide) rfl rfl ?_
        refine J_goto (tgt := 2) dX12_sorts_47 rfl ?_
        exact J_sub [1, 0] (hk2 (l1 + (nI 1)) M1) rfl
      · refine K_aload_n (q := 31) 0 dX12_sorts_30 rfl rfl rfl ?_
        refine K_iload_n (q := 32) 2 dX12_sorts_31 rfl rfl rfl ?_
        refine K_iconst (q := 33) (v := nI 1) dX12_sorts_32 rfl rfl ?_
        refine K_isub (q := 34) dX12_sorts_33 rfl ?_
        refine K_iload_n (q := 35) 2 dX12_sorts_34 rfl rfl rfl ?_
        refine K_cvv (q := 38) [.inl (l2 - (nI 1)), .inl (l2)] dX12_sorts_35 cb_X12_swaps cvRX12_386 rc_7 (show (17 : Nat) ≠ 0 by decide) rfl (Nat.le_of_ble_eq_true rfl) ⟨by decide, by decide⟩ (Nat.le_of_ble_eq_true rfl) rfl (tX12_swaps (l2 - (nI 1)) l2 M1) rfl (fun M3 => ?_)
        refine K_iinc (q := 41) (v := l2 + (-1 : Int32)) (ll' := [(2, .inl (l2 + (-1 : Int32))), (0, .inr (17, 0, 200)), (1, .inl (l1))]) 2 dX12_sorts_38 rfl rfl (by decide) rfl rfl ?_
        refine J_goto (tgt := 15) dX12_sorts_41 rfl ?_
        exact J_sub [1, 2, 0] (ih l1 (l2 + (-1 : Int32)) M3) rfl
def xX12_sorts_2   : Nat → Int32 → j_M → Option (j_M)
  | 0, _, _ => none
  | n + 1, l1, M => gd (nI 7) 7460 (oli (M 201 (ix (nI 7))) fun v1 => (if v1 ≤ l1 then some M else xX12_sorts_15 (xX12_sorts_2  n) fu l1 l1 M))
set_option maxRecDepth 20000 in
set_option maxHeartbeats 2000000 in
theorem tX12_sorts_2    : ∀ (n : Nat) (l1 : Int32) (M : j_M), J (ρ := j_M) yX12_sorts cX12_sorts 3 none 2 46 j_ev 2 [(0, .inr (17, 0, 200)), (1, .inl (l1))] [] M (xX12_sorts_2  n l1 M) := by
  intro n
  induction n with
  | zero => intros; exact J_none
  | succ n ih =>
    intro l1 M
    rw [xX12_sorts_2.eq_2]
    refine K_iload_n (q := 3) 1 dX12_sorts_2 rfl rfl rfl ?_
    refine K_aload_n (q := 4) 0 dX12_sorts_3 rfl rfl rfl ?_
    refine K_getR (q := 7) (ci := 7) (a2 := 201) 0 dX12_sorts_4 fRX12_9 rfl rfl (by decide) rfl rfl ?_
    refine K_bipush (q := 9) (v := nI 7) dX12_sorts_7 rfl rfl ?_
    refine K_iald (q := 10) dX12_sorts_9 rfl (fun v1 => ?_)
    refine K_icmp_ge (q := 13) (tgt := 50) dX12_sorts_10 rfl ?_ rfl ?_
    · exact J_vret dX12_sorts_50
    · refine K_iload_n (q := 14) 1 dX12_sorts_13 rfl rfl rfl ?_
      refine K_istore_n (q := 15) (ll' := [(2, .inl (l1)), (0, .inr (17, 0, 200)), (1, .inl (l1))]) dX12_sorts_14 rfl (by decide) rfl rfl ?_
      exact J_sub [1, 2, 0] (tX12_sorts_15 (xX12_sorts_2  n) ih fu l1 l1 M) rfl
def xX12_sorts   (M : j_M) : Option (j_M) := xX12_sorts_2 fu (nI 1) M
set_option maxRecDepth 20000 in
set_option maxHeartbeats 2000000 in
theorem tX12_sorts   (M : j_M) : J (ρ := j_M) yX12_sorts cX12_sorts 3 none 2 46 j_ev 0 [(0, .inr (17, 0, 200))] [] M (xX12_sorts   M) := by
  unfold xX12_sorts
  refine K_iconst (q := 1) (v := nI 1) dX12_sorts_0 rfl rfl ?_
  refine K_istore_n (q := 2) (ll' := [(1, .inl ((nI 1))), (0, .inr (17, 0, 200))]) dX12_sorts_1 rfl (by decide) rfl rfl ?_
  exact J_sub [1, 0] (tX12_sorts_2 fu (nI 1) M) rfl
theorem dX12_stateNow_0 : decode cX12_stateNow 0 = .ok (.aload_n 0, 1) := by decide +kernel
theorem dX12_stateNow_1 : decode cX12_stateNow 1 = .ok (.getfield 9, 3) := by decide +kernel
theorem dX12_stateNow_4 : decode cX12_stateNow 4 = .ok (.bipush 7, 2) := by decide +kernel
theorem dX12_stateNow_6 : decode cX12_stateNow 6 = .ok (.iaload, 1) := by decide +kernel
theorem dX12_stateNow_7 : decode cX12_stateNow 7 = .ok (.bipush 24, 2) := by decide +kernel
theorem dX12_stateNow_9 : decode cX12_stateNow 9 = .ok (.if_icmp .le 10, 3) := by decide +kernel
theorem dX12_stateNow_12 : decode cX12_stateNow 12 = .ok (.aload_n 0, 1) := by decide +kernel
theorem dX12_stateNow_13 : decode cX12_stateNow 13 = .ok (.iconst 1, 1) := by decide +kernel
theorem dX12_stateNow_14 : decode cX12_stateNow 14 = .ok (.putfield 392, 3) := by decide +kernel
theorem dX12_stateNow_17 : decode cX12_stateNow 17 = .ok (.iconst (-1), 1) := by decide +kernel
theorem dX12_stateNow_18 : decode cX12_stateNow 18 = .ok (.ireturn, 1) := by decide +kernel
theorem dX12_stateNow_19 : decode cX12_stateNow 19 = .ok (.aload_n 0, 1) := by decide +kernel
theorem dX12_stateNow_20 : decode cX12_stateNow 20 = .ok (.invokevirtual 395, 3) := by decide +kernel
theorem dX12_stateNow_23 : decode cX12_stateNow 23 = .ok (.iconst 0, 1) := by decide +kernel
theorem dX12_stateNow_24 : decode cX12_stateNow 24 = .ok (.istore_n 2, 1) := by decide +kernel
theorem dX12_stateNow_25 : decode cX12_stateNow 25 = .ok (.iload_n 2, 1) := by decide +kernel
theorem dX12_stateNow_26 : decode cX12_stateNow 26 = .ok (.aload_n 0, 1) := by decide +kernel
theorem dX12_stateNow_27 : decode cX12_stateNow 27 = .ok (.getfield 398, 3) := by decide +kernel
theorem dX12_stateNow_30 : decode cX12_stateNow 30 = .ok (.if_icmp .ge 19, 3) := by decide +kernel
theorem dX12_stateNow_33 : decode cX12_stateNow 33 = .ok (.aload_n 0, 1) := by decide +kernel
theorem dX12_stateNow_34 : decode cX12_stateNow 34 = .ok (.iload_n 2, 1) := by decide +kernel
theorem dX12_stateNow_35 : decode cX12_stateNow 35 = .ok (.invokevirtual 401, 3) := by decide +kernel
theorem dX12_stateNow_38 : decode cX12_stateNow 38 = .ok (.ifCond .eq 5, 3) := by decide +kernel
theorem dX12_stateNow_41 : decode cX12_stateNow 41 = .ok (.iload_n 2, 1) := by decide +kernel
theorem dX12_stateNow_42 : decode cX12_stateNow 42 = .ok (.ireturn, 1) := by decide +kernel
theorem dX12_stateNow_43 : decode cX12_stateNow 43 = .ok (.iinc 2 1, 3) := by decide +kernel
theorem dX12_stateNow_46 : decode cX12_stateNow 46 = .ok (.goto (-21), 3) := by decide +kernel
theorem dX12_stateNow_49 : decode cX12_stateNow 49 = .ok (.aload_n 0, 1) := by decide +kernel
theorem dX12_stateNow_50 : decode cX12_stateNow 50 = .ok (.getfield 398, 3) := by decide +kernel
theorem dX12_stateNow_53 : decode cX12_stateNow 53 = .ok (.sipush 250, 3) := by decide +kernel
theorem dX12_stateNow_56 : decode cX12_stateNow 56 = .ok (.if_icmp .ne 10, 3) := by decide +kernel
theorem dX12_stateNow_59 : decode cX12_stateNow 59 = .ok (.aload_n 0, 1) := by decide +kernel
theorem dX12_stateNow_60 : decode cX12_stateNow 60 = .ok (.iconst 1, 1) := by decide +kernel
theorem dX12_stateNow_61 : decode cX12_stateNow 61 = .ok (.putfield 392, 3) := by decide +kernel
theorem dX12_stateNow_64 : decode cX12_stateNow 64 = .ok (.iconst (-1), 1) := by decide +kernel
theorem dX12_stateNow_65 : decode cX12_stateNow 65 = .ok (.ireturn, 1) := by decide +kernel
theorem dX12_stateNow_66 : decode cX12_stateNow 66 = .ok (.iconst 0, 1) := by decide +kernel
theorem dX12_stateNow_67 : decode cX12_stateNow 67 = .ok (.istore_n 2, 1) := by decide +kernel
theorem dX12_stateNow_68 : decode cX12_stateNow 68 = .ok (.iload_n 2, 1) := by decide +kernel
theorem dX12_stateNow_69 : decode cX12_stateNow 69 = .ok (.sipush 729, 3) := by decide +kernel
theorem dX12_stateNow_72 : decode cX12_stateNow 72 = .ok (.if_icmp .ge 29, 3) := by decide +kernel
theorem dX12_stateNow_75 : decode cX12_stateNow 75 = .ok (.aload_n 0, 1) := by decide +kernel
theorem dX12_stateNow_76 : decode cX12_stateNow 76 = .ok (.getfield 46, 3) := by decide +kernel
theorem dX12_stateNow_79 : decode cX12_stateNow 79 = .ok (.sipush 729, 3) := by decide +kernel
theorem dX12_stateNow_82 : decode cX12_stateNow 82 = .ok (.aload_n 0, 1) := by decide +kernel
theorem dX12_stateNow_83 : decode cX12_stateNow 83 = .ok (.getfield 398, 3) := by decide +kernel
theorem dX12_stateNow_86 : decode cX12_stateNow 86 = .ok (.imul, 1) := by decide +kernel
theorem dX12_stateNow_87 : decode cX12_stateNow 87 = .ok (.iload_n 2, 1) := by decide +kernel
theorem dX12_stateNow_88 : decode cX12_stateNow 88 = .ok (.iadd, 1) := by decide +kernel
theorem dX12_stateNow_89 : decode cX12_stateNow 89 = .ok (.aload_n 0, 1) := by decide +kernel
theorem dX12_stateNow_90 : decode cX12_stateNow 90 = .ok (.iload_n 2, 1) := by decide +kernel
theorem dX12_stateNow_91 : decode cX12_stateNow 91 = .ok (.invokevirtual 389, 3) := by decide +kernel
theorem dX12_stateNow_94 : decode cX12_stateNow 94 = .ok (.iastore, 1) := by decide +kernel
theorem dX12_stateNow_95 : decode cX12_stateNow 95 = .ok (.iinc 2 1, 3) := by decide +kernel
theorem dX12_stateNow_98 : decode cX12_stateNow 98 = .ok (.goto (-30), 3) := by decide +kernel
theorem dX12_stateNow_101 : decode cX12_stateNow 101 = .ok (.aload_n 0, 1) := by decide +kernel
theorem dX12_stateNow_102 : decode cX12_stateNow 102 = .ok (.getfield 49, 3) := by decide +kernel
theorem dX12_stateNow_105 : decode cX12_stateNow 105 = .ok (.aload_n 0, 1) := by decide +kernel
theorem dX12_stateNow_106 : decode cX12_stateNow 106 = .ok (.getfield 398, 3) := by decide +kernel
theorem dX12_stateNow_109 : decode cX12_stateNow 109 = .ok (.iload_n 1, 1) := by decide +kernel
theorem dX12_stateNow_110 : decode cX12_stateNow 110 = .ok (.iastore, 1) := by decide +kernel
theorem dX12_stateNow_111 : decode cX12_stateNow 111 = .ok (.aload_n 0, 1) := by decide +kernel
theorem dX12_stateNow_112 : decode cX12_stateNow 112 = .ok (.dup, 1) := by decide +kernel
theorem dX12_stateNow_113 : decode cX12_stateNow 113 = .ok (.getfield 398, 3) := by decide +kernel
theorem dX12_stateNow_116 : decode cX12_stateNow 116 = .ok (.iconst 1, 1) := by decide +kernel
theorem dX12_stateNow_117 : decode cX12_stateNow 117 = .ok (.iadd, 1) := by decide +kernel
theorem dX12_stateNow_118 : decode cX12_stateNow 118 = .ok (.putfield 398, 3) := by decide +kernel
theorem dX12_stateNow_121 : decode cX12_stateNow 121 = .ok (.aload_n 0, 1) := by decide +kernel
theorem dX12_stateNow_122 : decode cX12_stateNow 122 = .ok (.getfield 398, 3) := by decide +kernel
theorem dX12_stateNow_125 : decode cX12_stateNow 125 = .ok (.iconst 1, 1) := by decide +kernel
theorem dX12_stateNow_126 : decode cX12_stateNow 126 = .ok (.isub, 1) := by decide +kernel
theorem dX12_stateNow_127 : decode cX12_stateNow 127 = .ok (.ireturn, 1) := by decide +kernel
def xX12_stateNow_68   : Nat → Int32 → Int32 → j_M → Option (Int32 × j_M)
  | 0, _, _, _ => none
  | n + 1, l1, l2, M => (if (nI 729) ≤ l2 then oli (M 200 29) fun v1 => gd v1 251 (oml (mw M 212 (ix v1) l1) fun M2 => oli (M2 200 29) fun v3 => oml (mw M2 200 29 (v3 + (nI 1))) fun M4 => oli (M4 200 29) fun v5 => some (v5 - (nI 1), M4)) else oli (M 200 29) fun v6 => obi (xX12_fieldOf l2 M) fun v8 M7 => gd (((nI 729) * v6) + l2) 182979 (oml (mw M7 211 (ix (((nI 729) * v6) + l2)) v8) fun M9 => xX12_stateNow_68  n l1 (l2 + (nI 1)) M9))
set_option maxRecDepth 20000 in
set_option maxHeartbeats 2000000 in
theorem tX12_stateNow_68    : ∀ (n : Nat) (l1 : Int32) (l2 : Int32) (M : j_M), J (ρ := Int32 × j_M) yX12_stateNow cX12_stateNow 3 (some .int) 3 68 j_ei 68 [(0, .inr (17, 0, 200)), (1, .inl (l1)), (2, .inl (l2))] [] M (xX12_stateNow_68  n l1 l2 M) := by
  intro n
  induction n with
  | zero => intros; exact J_none
  | succ n ih =>
    intro l1 l2 M
    rw [xX12_stateNow_68.eq_2]
    refine K_iload_n (q := 69) 2 dX12_stateNow_68 rfl rfl rfl ?_
    refine K_sipush (q := 72) (v := nI 729) dX12_stateNow_69 rfl rfl ?_
    refine K_icmp_ge (q := 75) (tgt := 101) dX12_stateNow_72 rfl ?_ rfl ?_
    · refine K_aload_n (q := 102) 0 dX12_stateNow_101 rfl rfl rfl ?_
      refine K_getR (q := 105) (ci := 7) (a2 := 212) 25 dX12_stateNow_102 fRX12_49 rfl rfl (by decide) rfl rfl ?_
      refine K_aload_n (q := 106) 0 dX12_stateNow_105 rfl rfl rfl ?_
      refine K_getI (q := 109) (ci := 7) 29 dX12_stateNow_106 fRX12_398 rfl rfl rfl (fun v1 => ?_)
      refine K_iload_n (q := 110) 1 dX12_stateNow_109 rfl rfl rfl ?_
      refine K_iast (q := 111) dX12_stateNow_110 rfl (fun M2 => ?_)
      refine K_aload_n (q := 112) 0 dX12_stateNow_111 rfl rfl rfl ?_
      refine K_dup (q := 113) dX12_stateNow_112 rfl ?_
      refine K_getI (q := 116) (ci := 7) 29 dX12_stateNow_113 fRX12_398 rfl rfl rfl (fun v3 => ?_)
      refine K_iconst (q := 117) (v := nI 1) dX12_stateNow_116 rfl rfl ?_
      refine K_iadd (q := 118) dX12_stateNow_117 rfl ?_
      refine K_putI (q := 121) (ci := 7) 29 dX12_stateNow_118 fRX12_398 fp_7_29 rfl rfl (by decide) rfl (fun M4 => ?_)
      refine K_aload_n (q := 122) 0 dX12_stateNow_121 rfl rfl rfl ?_
      refine K_getI (q := 125) (ci := 7) 29 dX12_stateNow_122 fRX12_398 rfl rfl rfl (fun v5 => ?_)
      refine K_iconst (q := 126) (v := nI 1) dX12_stateNow_125 rfl rfl ?_
      refine K_isub (q := 127) dX12_stateNow_126 rfl ?_
      exact J_iret dX12_stateNow_127
    · refine K_aload_n (q := 76) 0 dX12_stateNow_75 rfl rfl rfl ?_
      refine K_getR (q := 79) (ci := 7) (a2 := 211) 24 dX12_stateNow_76 fRX12_46 rfl rfl (by decide) rfl rfl ?_
      refine K_sipush (q := 82) (v := nI 729) dX12_stateNow_79 rfl rfl ?_
      refine K_aload_n (q := 83) 0 dX12_stateNow_82 rfl rfl rfl ?_
      refine K_getI (q := 86) (ci := 7) 29 dX12_stateNow_83 fRX12_398 rfl rfl rfl (fun v6 => ?_)
      refine K_imul (q := 87) dX12_stateNow_86 rfl ?_
      refine K_iload_n (q := 88) 2 dX12_stateNow_87 rfl rfl rfl ?_
      refine K_iadd (q := 89) dX12_stateNow_88 rfl ?_
      refine K_aload_n (q := 90) 0 dX12_stateNow_89 rfl rfl rfl ?_
      refine K_iload_n (q := 91) 2 dX12_stateNow_90 rfl rfl rfl ?_
      refine K_cvi (q := 94) [.inl (l2)] dX12_stateNow_91 cb_X12_fieldOf cvRX12_389 rc_7 (show (17 : Nat) ≠ 0 by decide) rfl (Nat.le_of_ble_eq_true rfl) ⟨by decide, by decide⟩ (Nat.le_of_ble_eq_true rfl) rfl (tX12_fieldOf l2 M) rfl (fun v8 M7 => ?_)
      refine K_iast (q := 95) dX12_stateNow_94 rfl (fun M9 => ?_)
      refine K_iinc (q := 98) (v := l2 + (nI 1)) (ll' := [(2, .inl (l2 + (nI 1))), (0, .inr (17, 0, 200)), (1, .inl (l1))]) 2 dX12_stateNow_95 rfl rfl (by decide) rfl rfl ?_
      refine J_goto (tgt := 68) dX12_stateNow_98 rfl ?_
      exact J_sub [1, 2, 0] (ih l1 (l2 + (nI 1)) M9) rfl
def xX12_stateNow_25   : Nat → Int32 → Int32 → j_M → Option (Int32 × j_M)
  | 0, _, _, _ => none
  | n + 1, l1, l2, M => oli (M 200 29) fun v1 => (if v1 ≤ l2 then oli (M 200 29) fun v2 => (if v2 = (nI 250) then gz (nI 1) (oml (mw M 200 31 (nI 1)) fun M3 => some ((-1 : Int32), M3)) else xX12_stateNow_68 fu l1 (nI 0) M) else obi (xX12_isState l2 M) fun v5 M4 => (if v5 = (0 : Int32) then xX12_stateNow_25  n l1 (l2 + (nI 1)) M4 else some (l2, M4)))
set_option maxRecDepth 20000 in
set_option maxHeartbeats 2000000 in
theorem tX12_stateNow_25    : ∀ (n : Nat) (l1 : Int32) (l2 : Int32) (M : j_M), J (ρ := Int32 × j_M) yX12_stateNow cX12_stateNow 3 (some .int) 3 68 j_ei 25 [(0, .inr (17, 0, 200)), (1, .inl (l1)), (2, .inl (l2))] [] M (xX12_stateNow_25  n l1 l2 M) := by
  intro n
  induction n with
  | zero => intros; exact J_none
  | succ n ih =>
    intro l1 l2 M
    rw [xX12_stateNow_25.eq_2]
    refine K_iload_n (q := 26) 2 dX12_stateNow_25 rfl rfl rfl ?_
    refine K_aload_n (q := 27) 0 dX12_stateNow_26 rfl rfl rfl ?_
    refine K_getI (q := 30) (ci := 7) 29 dX12_stateNow_27 fRX12_398 rfl rfl rfl (fun v1 => ?_)
    refine K_icmp_ge (q := 33) (tgt := 49) dX12_stateNow_30 rfl ?_ rfl ?_
    · refine K_aload_n (q := 50) 0 dX12_stateNow_49 rfl rfl rfl ?_
      refine K_getI (q := 53) (ci := 7) 29 dX12_stateNow_50 fRX12_398 rfl rfl rfl (fun v2 => ?_)
      refine K_sipush (q := 56) (v := nI 250) dX12_stateNow_53 rfl rfl ?_
      refine K_icmp_ne (q := 59) (tgt := 66) dX12_stateNow_56 rfl ?_ rfl ?_
      · refine K_iconst (q := 67) (v := nI 0) dX12_stateNow_66 rfl rfl ?_
        refine K_istore_n (q := 68) (ll' := [(2, .inl ((nI 0))), (0, .inr (17, 0, 200)), (1, .inl (l1))]) dX12_stateNow_67 rfl (by decide) rfl rfl ?_
        exact J_sub [1, 2, 0] (tX12_stateNow_68 fu l1 (nI 0) M) rfl
      · refine K_aload_n (q := 60) 0 dX12_stateNow_59 rfl rfl rfl ?_
        refine K_iconst (q := 61) (v := nI 1) dX12_stateNow_60 rfl rfl ?_
        refine K_putZ (q := 64) (ci := 7) 31 dX12_stateNow_61 fRX12_392 fp_7_31 rfl rfl (by decide) rfl (fun M3 => ?_)
        refine K_iconst (q := 65) (v := -1) dX12_stateNow_64 rfl rfl ?_
        exact J_iret dX12_stateNow_65
    · refine K_aload_n (q := 34) 0 dX12_stateNow_33 rfl rfl rfl ?_
      refine K_iload_n (q := 35) 2 dX12_stateNow_34 rfl rfl rfl ?_
      refine K_cvi (q := 38) [.inl (l2)] dX12_stateNow_35 cb_X12_isState cvRX12_401 rc_7 (show (17 : Nat) ≠ 0 by decide) rfl (Nat.le_of_ble_eq_true rfl) ⟨by decide, by decide⟩ (Nat.le_of_ble_eq_true rfl) rfl (tX12_isState l2 M) rfl (fun v5 M4 => ?_)
      refine K_if_eq (q := 41) (tgt := 43) dX12_stateNow_38 rfl ?_ rfl ?_
      · refine K_iinc (q := 46) (v := l2 + (nI 1)) (ll' := [(2, .inl (l2 + (nI 1))), (0, .inr (17, 0, 200)), (1, .inl (l1))]) 2 dX12_stateNow_43 rfl rfl (by decide) rfl rfl ?_
        refine J_goto (tgt := 25) dX12_stateNow_46 rfl ?_
        exact J_sub [1, 2, 0] (ih l1 (l2 + (nI 1)) M4) rfl
      · refine K_iload_n (q := 42) 2 dX12_stateNow_41 rfl rfl rfl ?_
        exact J_iret dX12_stateNow_42
def xX12_stateNow  (l1 : Int32) (M : j_M) : Option (Int32 × j_M) := gd (nI 7) 7460 (oli (M 201 (ix (nI 7))) fun v1 => (if v1 ≤ (nI 24) then obv (xX12_sorts M) fun M2 => xX12_stateNow_25 fu l1 (nI 0) M2 else gz (nI 1) (oml (mw M 200 31 (nI 1)) fun M3 => some ((-1 : Int32), M3))))
set_option maxRecDepth 20000 in
set_option maxHeartbeats 2000000 in
theorem tX12_stateNow  (l1 : Int32) (M : j_M) : J (ρ := Int32 × j_M) yX12_stateNow cX12_stateNow 3 (some .int) 3 68 j_ei 0 [(0, .inr (17, 0, 200)), (1, .inl (l1))] [] M (xX12_stateNow  l1 M) := by
  unfold xX12_stateNow
  refine K_aload_n (q := 1) 0 dX12_stateNow_0 rfl rfl rfl ?_
  refine K_getR (q := 4) (ci := 7) (a2 := 201) 0 dX12_stateNow_1 fRX12_9 rfl rfl (by decide) rfl rfl ?_
  refine K_bipush (q := 6) (v := nI 7) dX12_stateNow_4 rfl rfl ?_
  refine K_iald (q := 7) dX12_stateNow_6 rfl (fun v1 => ?_)
  refine K_bipush (q := 9) (v := nI 24) dX12_stateNow_7 rfl rfl ?_
  refine K_icmp_le (q := 12) (tgt := 19) dX12_stateNow_9 rfl ?_ rfl ?_
  · refine K_aload_n (q := 20) 0 dX12_stateNow_19 rfl rfl rfl ?_
    refine K_cvv (q := 23) [] dX12_stateNow_20 cb_X12_sorts cvRX12_395 rc_7 (show (17 : Nat) ≠ 0 by decide) rfl (Nat.le_of_ble_eq_true rfl) ⟨by decide, by decide⟩ (Nat.le_of_ble_eq_true rfl) rfl (tX12_sorts M) rfl (fun M2 => ?_)
    refine K_iconst (q := 24) (v := nI 0) dX12_stateNow_23 rfl rfl ?_
    refine K_istore_n (q := 25) (ll' := [(2, .inl ((nI 0))), (0, .inr (17, 0, 200)), (1, .inl (l1))]) dX12_stateNow_24 rfl (by decide) rfl rfl ?_
    exact J_sub [1, 2, 0] (tX12_stateNow_25 fu l1 (nI 0) M2) rfl
  · refine K_aload_n (q := 13) 0 dX12_stateNow_12 rfl rfl rfl ?_
    refine K_iconst (q := 14) (v := nI 1) dX12_stateNow_13 rfl rfl ?_
    refine K_putZ (q := 17) (ci := 7) 31 dX12_stateNow_14 fRX12_392 fp_7_31 rfl rfl (by decide) rfl (fun M3 => ?_)
    refine K_iconst (q := 18) (v := -1) dX12_stateNow_17 rfl rfl ?_
    exact J_iret dX12_stateNow_18
theorem dX12_goesRound_0 : decode cX12_goesRound 0 = .ok (.aload_n 0, 1) := by decide +kernel
theorem dX12_goesRound_1 : decode cX12_goesRound 1 = .ok (.getfield 398, 3) := by decide +kernel
theorem dX12_goesRound_4 : decode cX12_goesRound 4 = .ok (.istore_n 1, 1) := by decide +kernel
theorem dX12_goesRound_5 : decode cX12_goesRound 5 = .ok (.iconst 0, 1) := by decide +kernel
theorem dX12_goesRound_6 : decode cX12_goesRound 6 = .ok (.istore_n 2, 1) := by decide +kernel
theorem dX12_goesRound_7 : decode cX12_goesRound 7 = .ok (.iload_n 2, 1) := by decide +kernel
theorem dX12_goesRound_8 : decode cX12_goesRound 8 = .ok (.aload_n 0, 1) := by decide +kernel
theorem dX12_goesRound_9 : decode cX12_goesRound 9 = .ok (.getfield 398, 3) := by decide +kernel
theorem dX12_goesRound_12 : decode cX12_goesRound 12 = .ok (.if_icmp .ge 16, 3) := by decide +kernel
theorem dX12_goesRound_15 : decode cX12_goesRound 15 = .ok (.aload_n 0, 1) := by decide +kernel
theorem dX12_goesRound_16 : decode cX12_goesRound 16 = .ok (.getfield 58, 3) := by decide +kernel
theorem dX12_goesRound_19 : decode cX12_goesRound 19 = .ok (.iload_n 2, 1) := by decide +kernel
theorem dX12_goesRound_20 : decode cX12_goesRound 20 = .ok (.iconst 1, 1) := by decide +kernel
theorem dX12_goesRound_21 : decode cX12_goesRound 21 = .ok (.iastore, 1) := by decide +kernel
theorem dX12_goesRound_22 : decode cX12_goesRound 22 = .ok (.iinc 2 1, 3) := by decide +kernel
theorem dX12_goesRound_25 : decode cX12_goesRound 25 = .ok (.goto (-18), 3) := by decide +kernel
theorem dX12_goesRound_28 : decode cX12_goesRound 28 = .ok (.iconst 1, 1) := by decide +kernel
theorem dX12_goesRound_29 : decode cX12_goesRound 29 = .ok (.istore_n 2, 1) := by decide +kernel
theorem dX12_goesRound_30 : decode cX12_goesRound 30 = .ok (.iload_n 2, 1) := by decide +kernel
theorem dX12_goesRound_31 : decode cX12_goesRound 31 = .ok (.ifCond .eq 111, 3) := by decide +kernel
theorem dX12_goesRound_34 : decode cX12_goesRound 34 = .ok (.iconst 0, 1) := by decide +kernel
theorem dX12_goesRound_35 : decode cX12_goesRound 35 = .ok (.istore_n 2, 1) := by decide +kernel
theorem dX12_goesRound_36 : decode cX12_goesRound 36 = .ok (.iconst 0, 1) := by decide +kernel
theorem dX12_goesRound_37 : decode cX12_goesRound 37 = .ok (.istore_n 3, 1) := by decide +kernel
theorem dX12_goesRound_38 : decode cX12_goesRound 38 = .ok (.iload_n 3, 1) := by decide +kernel
theorem dX12_goesRound_39 : decode cX12_goesRound 39 = .ok (.aload_n 0, 1) := by decide +kernel
theorem dX12_goesRound_40 : decode cX12_goesRound 40 = .ok (.getfield 398, 3) := by decide +kernel
theorem dX12_goesRound_43 : decode cX12_goesRound 43 = .ok (.if_icmp .ge 96, 3) := by decide +kernel
theorem dX12_goesRound_46 : decode cX12_goesRound 46 = .ok (.iconst 0, 1) := by decide +kernel
theorem dX12_goesRound_47 : decode cX12_goesRound 47 = .ok (.istore 4, 2) := by decide +kernel
theorem dX12_goesRound_49 : decode cX12_goesRound 49 = .ok (.iconst 0, 1) := by decide +kernel
theorem dX12_goesRound_50 : decode cX12_goesRound 50 = .ok (.istore 5, 2) := by decide +kernel
theorem dX12_goesRound_52 : decode cX12_goesRound 52 = .ok (.iload 5, 2) := by decide +kernel
theorem dX12_goesRound_54 : decode cX12_goesRound 54 = .ok (.aload_n 0, 1) := by decide +kernel
theorem dX12_goesRound_55 : decode cX12_goesRound 55 = .ok (.getfield 413, 3) := by decide +kernel
theorem dX12_goesRound_58 : decode cX12_goesRound 58 = .ok (.if_icmp .ge 46, 3) := by decide +kernel
theorem dX12_goesRound_61 : decode cX12_goesRound 61 = .ok (.iload 4, 2) := by decide +kernel
theorem dX12_goesRound_63 : decode cX12_goesRound 63 = .ok (.aload_n 0, 1) := by decide +kernel
theorem dX12_goesRound_64 : decode cX12_goesRound 64 = .ok (.getfield 52, 3) := by decide +kernel
theorem dX12_goesRound_67 : decode cX12_goesRound 67 = .ok (.iload 5, 2) := by decide +kernel
theorem dX12_goesRound_69 : decode cX12_goesRound 69 = .ok (.iaload, 1) := by decide +kernel
theorem dX12_goesRound_70 : decode cX12_goesRound 70 = .ok (.iload_n 3, 1) := by decide +kernel
theorem dX12_goesRound_71 : decode cX12_goesRound 71 = .ok (.if_icmp .ne 23, 3) := by decide +kernel
theorem dX12_goesRound_74 : decode cX12_goesRound 74 = .ok (.aload_n 0, 1) := by decide +kernel
theorem dX12_goesRound_75 : decode cX12_goesRound 75 = .ok (.getfield 58, 3) := by decide +kernel
theorem dX12_goesRound_78 : decode cX12_goesRound 78 = .ok (.aload_n 0, 1) := by decide +kernel
theorem dX12_goesRound_79 : decode cX12_goesRound 79 = .ok (.getfield 55, 3) := by decide +kernel
theorem dX12_goesRound_82 : decode cX12_goesRound 82 = .ok (.iload 5, 2) := by decide +kernel
theorem dX12_goesRound_84 : decode cX12_goesRound 84 = .ok (.iaload, 1) := by decide +kernel
theorem dX12_goesRound_85 : decode cX12_goesRound 85 = .ok (.iaload, 1) := by decide +kernel
theorem dX12_goesRound_86 : decode cX12_goesRound 86 = .ok (.iconst 1, 1) := by decide +kernel
theorem dX12_goesRound_87 : decode cX12_goesRound 87 = .ok (.if_icmp .ne 7, 3) := by decide +kernel
theorem dX12_goesRound_90 : decode cX12_goesRound 90 = .ok (.iconst 1, 1) := by decide +kernel
theorem dX12_goesRound_91 : decode cX12_goesRound 91 = .ok (.goto 4, 3) := by decide +kernel
theorem dX12_goesRound_94 : decode cX12_goesRound 94 = .ok (.iconst 0, 1) := by decide +kernel
theorem dX12_goesRound_95 : decode cX12_goesRound 95 = .ok (.ior, 1) := by decide +kernel
theorem dX12_goesRound_96 : decode cX12_goesRound 96 = .ok (.istore 4, 2) := by decide +kernel
theorem dX12_goesRound_98 : decode cX12_goesRound 98 = .ok (.iinc 5 1, 3) := by decide +kernel
theorem dX12_goesRound_101 : decode cX12_goesRound 101 = .ok (.goto (-49), 3) := by decide +kernel
theorem dX12_goesRound_104 : decode cX12_goesRound 104 = .ok (.aload_n 0, 1) := by decide +kernel
theorem dX12_goesRound_105 : decode cX12_goesRound 105 = .ok (.getfield 58, 3) := by decide +kernel
theorem dX12_goesRound_108 : decode cX12_goesRound 108 = .ok (.iload_n 3, 1) := by decide +kernel
theorem dX12_goesRound_109 : decode cX12_goesRound 109 = .ok (.iaload, 1) := by decide +kernel
theorem dX12_goesRound_110 : decode cX12_goesRound 110 = .ok (.ifCond .eq 23, 3) := by decide +kernel
theorem dX12_goesRound_113 : decode cX12_goesRound 113 = .ok (.iload 4, 2) := by decide +kernel
theorem dX12_goesRound_115 : decode cX12_goesRound 115 = .ok (.ifCond .eq 6, 3) := by decide +kernel
theorem dX12_goesRound_118 : decode cX12_goesRound 118 = .ok (.goto 15, 3) := by decide +kernel
theorem dX12_goesRound_121 : decode cX12_goesRound 121 = .ok (.aload_n 0, 1) := by decide +kernel
theorem dX12_goesRound_122 : decode cX12_goesRound 122 = .ok (.getfield 58, 3) := by decide +kernel
theorem dX12_goesRound_125 : decode cX12_goesRound 125 = .ok (.iload_n 3, 1) := by decide +kernel
theorem dX12_goesRound_126 : decode cX12_goesRound 126 = .ok (.iconst 0, 1) := by decide +kernel
theorem dX12_goesRound_127 : decode cX12_goesRound 127 = .ok (.iastore, 1) := by decide +kernel
theorem dX12_goesRound_128 : decode cX12_goesRound 128 = .ok (.iinc 1 (-1), 3) := by decide +kernel
theorem dX12_goesRound_131 : decode cX12_goesRound 131 = .ok (.iconst 1, 1) := by decide +kernel
theorem dX12_goesRound_132 : decode cX12_goesRound 132 = .ok (.istore_n 2, 1) := by decide +kernel
theorem dX12_goesRound_133 : decode cX12_goesRound 133 = .ok (.iinc 3 1, 3) := by decide +kernel
theorem dX12_goesRound_136 : decode cX12_goesRound 136 = .ok (.goto (-98), 3) := by decide +kernel
theorem dX12_goesRound_139 : decode cX12_goesRound 139 = .ok (.goto (-109), 3) := by decide +kernel
theorem dX12_goesRound_142 : decode cX12_goesRound 142 = .ok (.iload_n 1, 1) := by decide +kernel
theorem dX12_goesRound_143 : decode cX12_goesRound 143 = .ok (.ifCond .le 7, 3) := by decide +kernel
theorem dX12_goesRound_146 : decode cX12_goesRound 146 = .ok (.iconst 1, 1) := by decide +kernel
theorem dX12_goesRound_147 : decode cX12_goesRound 147 = .ok (.goto 4, 3) := by decide +kernel
theorem dX12_goesRound_150 : decode cX12_goesRound 150 = .ok (.iconst 0, 1) := by decide +kernel
theorem dX12_goesRound_151 : decode cX12_goesRound 151 = .ok (.ireturn, 1) := by decide +kernel
def xX12_goesRound_95 (k30 : Int32 → Int32 → j_M → Option (Int32 × j_M)) (k38 : Int32 → Int32 → Int32 → j_M → Option (Int32 × j_M)) (k52 : Int32 → Int32 → Int32 → Int32 → Int32 → j_M → Option (Int32 × j_M))  (l1 : Int32) (l2 : Int32) (l3 : Int32) (l5 : Int32) (s1 : Int32) (s0 : Int32) (M : j_M) : Option (Int32 × j_M) := k52 l1 l2 l3 (s1 ||| s0) (l5 + (nI 1)) M
set_option maxRecDepth 20000 in
set_option maxHeartbeats 2000000 in
theorem tX12_goesRound_95 (k30 : Int32 → Int32 → j_M → Option (Int32 × j_M)) (k38 : Int32 → Int32 → Int32 → j_M → Option (Int32 × j_M)) (k52 : Int32 → Int32 → Int32 → Int32 → Int32 → j_M → Option (Int32 × j_M))  (hk30 : ∀ (l1 : Int32) (l2 : Int32) (M : j_M), J (ρ := Int32 × j_M) yX12_goesRound cX12_goesRound 6 (some .boolean) 0 0 j_ei 30 [(0, .inr (17, 0, 200)), (1, .inl (l1)), (2, .inl (l2))] [] M (k30 l1 l2 M)) (hk38 : ∀ (l1 : Int32) (l2 : Int32) (l3 : Int32) (M : j_M), J (ρ := Int32 × j_M) yX12_goesRound cX12_goesRound 6 (some .boolean) 0 0 j_ei 38 [(0, .inr (17, 0, 200)), (1, .inl (l1)), (2, .inl (l2)), (3, .inl (l3))] [] M (k38 l1 l2 l3 M)) (hk52 : ∀ (l1 : Int32) (l2 : Int32) (l3 : Int32) (l4 : Int32) (l5 : Int32) (M : j_M), J (ρ := Int32 × j_M) yX12_goesRound cX12_goesRound 6 (some .boolean) 0 0 j_ei 52 [(0, .inr (17, 0, 200)), (1, .inl (l1)), (2, .inl (l2)), (3, .inl (l3)), (4, .inl (l4)), (5, .inl (l5))] [] M (k52 l1 l2 l3 l4 l5 M)) (l1 : Int32) (l2 : Int32) (l3 : Int32) (l5 : Int32) (s1 : Int32) (s0 : Int32) (M : j_M) : J (ρ := Int32 × j_M) yX12_goesRound cX12_goesRound 6 (some .boolean) 0 0 j_ei 95 [(0, .inr (17, 0, 200)), (1, .inl (l1)), (2, .inl (l2)), (3, .inl (l3)), (5, .inl (l5))] [.inl (s0), .inl (s1)] M (xX12_goesRound_95 k30 k38 k52 l1 l2 l3 l5 s1 s0 M) := by
  unfold xX12_goesRound_95
  refine K_ior (q := 96) dX12_goesRound_95 rfl ?_
  refine K_istore (q := 98) (ll' := [(4, .inl (s1 ||| s0)), (0, .inr (17, 0, 200)), (1, .inl (l1)), (2, .inl (l2)), (3, .inl (l3)), (5, .inl (l5))]) dX12_goesRound_96 (by decide) rfl rfl ?_
  refine K_iinc (q := 101) (v := l5 + (nI 1)) (ll' := [(5, .inl (l5 + (nI 1))), (4, .inl (s1 ||| s0)), (0, .inr (17, 0, 200)), (1, .inl (l1)), (2, .inl (l2)), (3, .inl (l3))]) 5 dX12_goesRound_98 rfl rfl (by decide) rfl rfl ?_
  refine J_goto (tgt := 52) dX12_goesRound_101 rfl ?_
  exact J_sub [2, 3, 4, 5, 1, 0] (hk52 l1 l2 l3 (s1 ||| s0) (l5 + (nI 1)) M) rfl
def xX12_goesRound_94 (k30 : Int32 → Int32 → j_M → Option (Int32 × j_M)) (k38 : Int32 → Int32 → Int32 → j_M → Option (Int32 × j_M)) (k52 : Int32 → Int32 → Int32 → Int32 → Int32 → j_M → Option (Int32 × j_M))  (l1 : Int32) (l2 : Int32) (l3 : Int32) (l5 : Int32) (s0 : Int32) (M : j_M) : Option (Int32 × j_M) := xX12_goesRound_95 k30 k38 k52 l1 l2 l3 l5 s0 (nI 0) M
set_option maxRecDepth 20000 in
set_option maxHeartbeats 2000000 in
theorem tX12_goesRound_94 (k30 : Int32 → Int32 → j_M → Option (Int32 × j_M)) (k38 : Int32 → Int32 → Int32 → j_M → Option (Int32 × j_M)) (k52 : Int32 → Int32 → Int32 → Int32 → Int32 → j_M → Option (Int32 × j_M))  (hk30 : ∀ (l1 : Int32) (l2 : Int32) (M : j_M), J (ρ := Int32 × j_M) yX12_goesRound cX12_goesRound 6 (some .boolean) 0 0 j_ei 30 [(0, .inr (17, 0, 200)), (1, .inl (l1)), (2, .inl (l2))] [] M (k30 l1 l2 M)) (hk38 : ∀ (l1 : Int32) (l2 : Int32) (l3 : Int32) (M : j_M), J (ρ := Int32 × j_M) yX12_goesRound cX12_goesRound 6 (some .boolean) 0 0 j_ei 38 [(0, .inr (17, 0, 200)), (1, .inl (l1)), (2, .inl (l2)), (3, .inl (l3))] [] M (k38 l1 l2 l3 M)) (hk52 : ∀ (l1 : Int32) (l2 : Int32) (l3 : Int32) (l4 : Int32) (l5 : Int32) (M : j_M), J (ρ := Int32 × j_M) yX12_goesRound cX12_goesRound 6 (some .boolean) 0 0 j_ei 52 [(0, .inr (17, 0, 200)), (1, .inl (l1)), (2, .inl (l2)), (3, .inl (l3)), (4, .inl (l4)), (5, .inl (l5))] [] M (k52 l1 l2 l3 l4 l5 M)) (l1 : Int32) (l2 : Int32) (l3 : Int32) (l5 : Int32) (s0 : Int32) (M : j_M) : J (ρ := Int32 × j_M) yX12_goesRound cX12_goesRound 6 (some .boolean) 0 0 j_ei 94 [(0, .inr (17, 0, 200)), (1, .inl (l1)), (2, .inl (l2)), (3, .inl (l3)), (5, .inl (l5))] [.inl (s0)] M (xX12_goesRound_94 k30 k38 k52 l1 l2 l3 l5 s0 M) := by
  unfold xX12_goesRound_94
  refine K_iconst (q := 95) (v := nI 0) dX12_goesRound_94 rfl rfl ?_
  exact J_sub [0, 1, 2, 3, 4] (tX12_goesRound_95 k30 k38 k52 hk30 hk38 hk52 l1 l2 l3 l5 s0 (nI 0) M) rfl
def xX12_goesRound_52 (k30 : Int32 → Int32 → j_M → Option (Int32 × j_M)) (k38 : Int32 → Int32 → Int32 → j_M → Option (Int32 × j_M))  : Nat → Int32 → Int32 → Int32 → Int32 → Int32 → j_M → Option (Int32 × j_M)
  | 0, _, _, _, _, _, _ => none
  | n + 1, l1, l2, l3, l4, l5, M => oli (M 200 30) fun v1 => (if v1 ≤ l5 then gd l3 251 (oli (M 215 (ix l3)) fun v2 => (if v2 = (0 : Int32) then k38 l1 l2 (l3 + (nI 1)) M else (if l4 = (0 : Int32) then gd l3 251 (oml (mw M 215 (ix l3) (nI 0)) fun M3 => k38 (l1 + (-1 : Int32)) (nI 1) (l3 + (nI 1)) M3) else k38 l1 l2 (l3 + (nI 1)) M))) else gd l5 6200 (oli (M 213 (ix l5)) fun v4 => (if v4 = l3 then gd l5 6200 (oli (M 214 (ix l5)) fun v5 => gd v5 251 (oli (M 215 (ix v5)) fun v6 => (if v6 = (nI 1) then xX12_goesRound_95 k30 k38 (xX12_goesRound_52 k30 k38 n) l1 l2 l3 l5 l4 (nI 1) M else xX12_goesRound_94 k30 k38 (xX12_goesRound_52 k30 k38 n) l1 l2 l3 l5 l4 M))) else xX12_goesRound_94 k30 k38 (xX12_goesRound_52 k30 k38 n) l1 l2 l3 l5 l4 M)))
set_option maxRecDepth 20000 in
set_option maxHeartbeats 2000000 in
theorem tX12_goesRound_52 (k30 : Int32 → Int32 → j_M → Option (Int32 × j_M)) (k38 : Int32 → Int32 → Int32 → j_M → Option (Int32 × j_M))  (hk30 : ∀ (l1 : Int32) (l2 : Int32) (M : j_M), J (ρ := Int32 × j_M) yX12_goesRound cX12_goesRound 6 (some .boolean) 0 0 j_ei 30 [(0, .inr (17, 0, 200)), (1, .inl (l1)), (2, .inl (l2))] [] M (k30 l1 l2 M)) (hk38 : ∀ (l1 : Int32) (l2 : Int32) (l3 : Int32) (M : j_M), J (ρ := Int32 × j_M) yX12_goesRound cX12_goesRound 6 (some .boolean) 0 0 j_ei 38 [(0, .inr (17, 0, 200)), (1, .inl (l1)), (2, .inl (l2)), (3, .inl (l3))] [] M (k38 l1 l2 l3 M)) : ∀ (n : Nat) (l1 : Int32) (l2 : Int32) (l3 : Int32) (l4 : Int32) (l5 : Int32) (M : j_M), J (ρ := Int32 × j_M) yX12_goesRound cX12_goesRound 6 (some .boolean) 0 0 j_ei 52 [(0, .inr (17, 0, 200)), (1, .inl (l1)), (2, .inl (l2)), (3, .inl (l3)), (4, .inl (l4)), (5, .inl (l5))] [] M (xX12_goesRound_52 k30 k38 n l1 l2 l3 l4 l5 M) := by
  intro n
  induction n with
  | zero => intros; exact J_none
  | succ n ih =>
    intro l1 l2 l3 l4 l5 M
    rw [xX12_goesRound_52.eq_2]
    refine K_iload (q := 54) 5 dX12_goesRound_52 rfl rfl ?_
    refine K_aload_n (q := 55) 0 dX12_goesRound_54 rfl rfl rfl ?_
    refine K_getI (q := 58) (ci := 7) 30 dX12_goesRound_55 fRX12_413 rfl rfl rfl (fun v1 => ?_)
    refine K_icmp_ge (q := 61) (tgt := 104) dX12_goesRound_58 rfl ?_ rfl ?_
    · refine K_aload_n (q := 105) 0 dX12_goesRound_104 rfl rfl rfl ?_
      refine K_getR (q := 108) (ci := 7) (a2 := 215) 28 dX12_goesRound_105 fRX12_58 rfl rfl (by decide) rfl rfl ?_
      refine K_iload_n (q := 109) 3 dX12_goesRound_108 rfl rfl rfl ?_
      refine K_iald (q := 110) dX12_goesRound_109 rfl (fun v2 => ?_)
      refine K_if_eq (q := 113) (tgt := 133) dX12_goesRound_110 rfl ?_ rfl ?_
      · refine K_iinc (q := 136) (v := l3 + (nI 1)) (ll' := [(3, .inl (l3 + (nI 1))), (0, .inr (17, 0, 200)), (1, .inl (l1)), (2, .inl (l2)), (4, .inl (l4)), (5, .inl (l5))]) 3 dX12_goesRound_133 rfl rfl (by decide) rfl rfl ?_
        refine J_goto (tgt := 38) dX12_goesRound_136 rfl ?_
        exact J_sub [1, 2, 3, 0] (hk38 l1 l2 (l3 + (nI 1)) M) rfl
      · refine K_iload (q := 115) 4 dX12_goesRound_113 rfl rfl ?_
        refine K_if_eq (q := 118) (tgt := 121) dX12_goesRound_115 rfl ?_ rfl ?_
        · refine K_aload_n (q := 122) 0 dX12_goesRound_121 rfl rfl rfl ?_
          refine K_getR (q := 125) (ci := 7) (a2 := 215) 28 dX12_goesRound_122 fRX12_58 rfl rfl (by decide) rfl rfl ?_
          refine K_iload_n (q := 126) 3 dX12_goesRound_125 rfl rfl rfl ?_
          refine K_iconst (q := 127) (v := nI 0) dX12_goesRound_126 rfl rfl ?_
          refine K_iast (q := 128) dX12_goesRound_127 rfl (fun M3 => ?_)
          refine K_iinc (q := 131) (v := l1 + (-1 : Int32)) (ll' := [(1, .inl (l1 + (-1 : Int32))), (0, .inr (17, 0, 200)), (2, .inl (l2)), (3, .inl (l3)), (4, .inl (l4)), (5, .inl (l5))]) 1 dX12_goesRound_128 rfl rfl (by decide) rfl rfl ?_
          refine K_iconst (q := 132) (v := nI 1) dX12_goesRound_131 rfl rfl ?_
          refine K_istore_n (q := 133) (ll' := [(2, .inl ((nI 1))), (1, .inl (l1 + (-1 : Int32))), (0, .inr (17, 0, 200)), (3, .inl (l3)), (4, .inl (l4)), (5, .inl (l5))]) dX12_goesRound_132 rfl (by decide) rfl rfl ?_
          refine K_iinc (q := 136) (v := l3 + (nI 1)) (ll' := [(3, .inl (l3 + (nI 1))), (2, .inl ((nI 1))), (1, .inl (l1 + (-1 : Int32))), (0, .inr (17, 0, 200)), (4, .inl (l4)), (5, .inl (l5))]) 3 dX12_goesRound_133 rfl rfl (by decide) rfl rfl ?_
          refine J_goto (tgt := 38) dX12_goesRound_136 rfl ?_
          exact J_sub [3, 2, 1, 0] (hk38 (l1 + (-1 : Int32)) (nI 1) (l3 + (nI 1)) M3) rfl
        · refine J_goto (tgt := 133) dX12_goesRound_118 rfl ?_
          refine K_iinc (q := 136) (v := l3 + (nI 1)) (ll' := [(3, .inl (l3 + (nI 1))), (0, .inr (17, 0, 200)), (1, .inl (l1)), (2, .inl (l2)), (4, .inl (l4)), (5, .inl (l5))]) 3 dX12_goesRound_133 rfl rfl (by decide) rfl rfl ?_
          refine J_goto (tgt := 38) dX12_goesRound_136 rfl ?_
          exact J_sub [1, 2, 3, 0] (hk38 l1 l2 (l3 + (nI 1)) M) rfl
    · refine K_iload (q := 63) 4 dX12_goesRound_61 rfl rfl ?_
      refine K_aload_n (q := 64) 0 dX12_goesRound_63 rfl rfl rfl ?_
      refine K_getR (q := 67) (ci := 7) (a2 := 213) 26 dX12_goesRound_64 fRX12_52 rfl rfl (by decide) rfl rfl ?_
      refine K_iload (q := 69) 5 dX12_goesRound_67 rfl rfl ?_
      refine K_iald (q := 70) dX12_goesRound_69 rfl (fun v4 => ?_)
      refine K_iload_n (q := 71) 3 dX12_goesRound_70 rfl rfl rfl ?_
      refine K_icmp_ne (q := 74) (tgt := 94) dX12_goesRound_71 rfl ?_ rfl ?_
      · exact J_sub [0, 1, 2, 3, 5] (tX12_goesRound_94 k30 k38 (xX12_goesRound_52 k30 k38 n) hk30 hk38 ih l1 l2 l3 l5 l4 M) rfl
      · refine K_aload_n (q := 75) 0 dX12_goesRound_74 rfl rfl rfl ?_
        refine K_getR (q := 78) (ci := 7) (a2 := 215) 28 dX12_goesRound_75 fRX12_58 rfl rfl (by decide) rfl rfl ?_
        refine K_aload_n (q := 79) 0 dX12_goesRound_78 rfl rfl rfl ?_
        refine K_getR (q := 82) (ci := 7) (a2 := 214) 27 dX12_goesRound_79 fRX12_55 rfl rfl (by decide) rfl rfl ?_
        refine K_iload (q := 84) 5 dX12_goesRound_82 rfl rfl ?_
        refine K_iald (q := 85) dX12_goesRound_84 rfl (fun v5 => ?_)
        refine K_iald (q := 86) dX12_goesRound_85 rfl (fun v6 => ?_)
        refine K_iconst (q := 87) (v := nI 1) dX12_goesRound_86 rfl rfl ?_
        refine K_icmp_ne (q := 90) (tgt := 94) dX12_goesRound_87 rfl ?_ rfl ?_
        · exact J_sub [0, 1, 2, 3, 5] (tX12_goesRound_94 k30 k38 (xX12_goesRound_52 k30 k38 n) hk30 hk38 ih l1 l2 l3 l5 l4 M) rfl
        · refine K_iconst (q := 91) (v := nI 1) dX12_goesRound_90 rfl rfl ?_
          refine J_goto (tgt := 95) dX12_goesRound_91 rfl ?_
          exact J_sub [0, 1, 2, 3, 5] (tX12_goesRound_95 k30 k38 (xX12_goesRound_52 k30 k38 n) hk30 hk38 ih l1 l2 l3 l5 l4 (nI 1) M) rfl
def xX12_goesRound_38 (k30 : Int32 → Int32 → j_M → Option (Int32 × j_M))  : Nat → Int32 → Int32 → Int32 → j_M → Option (Int32 × j_M)
  | 0, _, _, _, _ => none
  | n + 1, l1, l2, l3, M => oli (M 200 29) fun v1 => (if v1 ≤ l3 then k30 l1 l2 M else xX12_goesRound_52 k30 (xX12_goesRound_38 k30 n) fu l1 l2 l3 (nI 0) (nI 0) M)
set_option maxRecDepth 20000 in
set_option maxHeartbeats 2000000 in
theorem tX12_goesRound_38 (k30 : Int32 → Int32 → j_M → Option (Int32 × j_M))  (hk30 : ∀ (l1 : Int32) (l2 : Int32) (M : j_M), J (ρ := Int32 × j_M) yX12_goesRound cX12_goesRound 6 (some .boolean) 0 0 j_ei 30 [(0, .inr (17, 0, 200)), (1, .inl (l1)), (2, .inl (l2))] [] M (k30 l1 l2 M)) : ∀ (n : Nat) (l1 : Int32) (l2 : Int32) (l3 : Int32) (M : j_M), J (ρ := Int32 × j_M) yX12_goesRound cX12_goesRound 6 (some .boolean) 0 0 j_ei 38 [(0, .inr (17, 0, 200)), (1, .inl (l1)), (2, .inl (l2)), (3, .inl (l3))] [] M (xX12_goesRound_38 k30 n l1 l2 l3 M) := by
  intro n
  induction n with
  | zero => intros; exact J_none
  | succ n ih =>
    intro l1 l2 l3 M
    rw [xX12_goesRound_38.eq_2]
    refine K_iload_n (q := 39) 3 dX12_goesRound_38 rfl rfl rfl ?_
    refine K_aload_n (q := 40) 0 dX12_goesRound_39 rfl rfl rfl ?_
    refine K_getI (q := 43) (ci := 7) 29 dX12_goesRound_40 fRX12_398 rfl rfl rfl (fun v1 => ?_)
    refine K_icmp_ge (q := 46) (tgt := 139) dX12_goesRound_43 rfl ?_ rfl ?_
    · refine J_goto (tgt := 30) dX12_goesRound_139 rfl ?_
      exact J_sub [0, 1, 2] (hk30 l1 l2 M) rfl
    · refine K_iconst (q := 47) (v := nI 0) dX12_goesRound_46 rfl rfl ?_
      refine K_istore (q := 49) (ll' := [(4, .inl ((nI 0))), (0, .inr (17, 0, 200)), (1, .inl (l1)), (2, .inl (l2)), (3, .inl (l3))]) dX12_goesRound_47 (by decide) rfl rfl ?_
      refine K_iconst (q := 50) (v := nI 0) dX12_goesRound_49 rfl rfl ?_
      refine K_istore (q := 52) (ll' := [(5, .inl ((nI 0))), (4, .inl ((nI 0))), (0, .inr (17, 0, 200)), (1, .inl (l1)), (2, .inl (l2)), (3, .inl (l3))]) dX12_goesRound_50 (by decide) rfl rfl ?_
      exact J_sub [2, 3, 4, 5, 1, 0] (tX12_goesRound_52 k30 (xX12_goesRound_38 k30 n) hk30 ih fu l1 l2 l3 (nI 0) (nI 0) M) rfl
def xX12_goesRound_30   : Nat → Int32 → Int32 → j_M → Option (Int32 × j_M)
  | 0, _, _, _ => none
  | n + 1, l1, l2, M => (if l2 = (0 : Int32) then (if l1 ≤ (0 : Int32) then some ((nI 0), M) else some ((nI 1), M)) else xX12_goesRound_38 (xX12_goesRound_30  n) fu l1 (nI 0) (nI 0) M)
set_option maxRecDepth 20000 in
set_option maxHeartbeats 2000000 in
theorem tX12_goesRound_30    : ∀ (n : Nat) (l1 : Int32) (l2 : Int32) (M : j_M), J (ρ := Int32 × j_M) yX12_goesRound cX12_goesRound 6 (some .boolean) 0 0 j_ei 30 [(0, .inr (17, 0, 200)), (1, .inl (l1)), (2, .inl (l2))] [] M (xX12_goesRound_30  n l1 l2 M) := by
  intro n
  induction n with
  | zero => intros; exact J_none
  | succ n ih =>
    intro l1 l2 M
    rw [xX12_goesRound_30.eq_2]
    refine K_iload_n (q := 31) 2 dX12_goesRound_30 rfl rfl rfl ?_
    refine K_if_eq (q := 34) (tgt := 142) dX12_goesRound_31 rfl ?_ rfl ?_
    · refine K_iload_n (q := 143) 1 dX12_goesRound_142 rfl rfl rfl ?_
      refine K_if_le (q := 146) (tgt := 150) dX12_goesRound_143 rfl ?_ rfl ?_
      · refine K_iconst (q := 151) (v := nI 0) dX12_goesRound_150 rfl rfl ?_
        exact J_zret dX12_goesRound_151 (by decide)
      · refine K_iconst (q := 147) (v := nI 1) dX12_goesRound_146 rfl rfl ?_
        refine J_goto (tgt := 151) dX12_goesRound_147 rfl ?_
        exact J_zret dX12_goesRound_151 (by decide)
    · refine K_iconst (q := 35) (v := nI 0) dX12_goesRound_34 rfl rfl ?_
      refine K_istore_n (q := 36) (ll' := [(2, .inl ((nI 0))), (0, .inr (17, 0, 200)), (1, .inl (l1))]) dX12_goesRound_35 rfl (by decide) rfl rfl ?_
      refine K_iconst (q := 37) (v := nI 0) dX12_goesRound_36 rfl rfl ?_
      refine K_istore_n (q := 38) (ll' := [(3, .inl ((nI 0))), (2, .inl ((nI 0))), (0, .inr (17, 0, 200)), (1, .inl (l1))]) dX12_goesRound_37 rfl (by decide) rfl rfl ?_
      exact J_sub [2, 3, 1, 0] (tX12_goesRound_38 (xX12_goesRound_30  n) ih fu l1 (nI 0) (nI 0) M) rfl
def xX12_goesRound_7   : Nat → Int32 → Int32 → j_M → Option (Int32 × j_M)
  | 0, _, _, _ => none
  | n + 1, l1, l2, M => oli (M 200 29) fun v1 => (if v1 ≤ l2 then xX12_goesRound_30 fu l1 (nI 1) M else gd l2 251 (oml (mw M 215 (ix l2) (nI 1)) fun M2 => xX12_goesRound_7  n l1 (l2 + (nI 1)) M2))
set_option maxRecDepth 20000 in
set_option maxHeartbeats 2000000 in
theorem tX12_goesRound_7    : ∀ (n : Nat) (l1 : Int32) (l2 : Int32) (M : j_M), J (ρ := Int32 × j_M) yX12_goesRound cX12_goesRound 6 (some .boolean) 0 0 j_ei 7 [(0, .inr (17, 0, 200)), (1, .inl (l1)), (2, .inl (l2))] [] M (xX12_goesRound_7  n l1 l2 M) := by
  intro n
  induction n with
  | zero => intros; exact J_none
  | succ n ih =>
    intro l1 l2 M
    rw [xX12_goesRound_7.eq_2]
    refine K_iload_n (q := 8) 2 dX12_goesRound_7 rfl rfl rfl ?_
    refine K_aload_n (q := 9) 0 dX12_goesRound_8 rfl rfl rfl ?_
    refine K_getI (q := 12) (ci := 7) 29 dX12_goesRound_9 fRX12_398 rfl rfl rfl (fun v1 => ?_)
    refine K_icmp_ge (q := 15) (tgt := 28) dX12_goesRound_12 rfl ?_ rfl ?_
    · refine K_iconst (q := 29) (v := nI 1) dX12_goesRound_28 rfl rfl ?_
      refine K_istore_n (q := 30) (ll' := [(2, .inl ((nI 1))), (0, .inr (17, 0, 200)), (1, .inl (l1))]) dX12_goesRound_29 rfl (by decide) rfl rfl ?_
      exact J_sub [1, 2, 0] (tX12_goesRound_30 fu l1 (nI 1) M) rfl
    · refine K_aload_n (q := 16) 0 dX12_goesRound_15 rfl rfl rfl ?_
      refine K_getR (q := 19) (ci := 7) (a2 := 215) 28 dX12_goesRound_16 fRX12_58 rfl rfl (by decide) rfl rfl ?_
      refine K_iload_n (q := 20) 2 dX12_goesRound_19 rfl rfl rfl ?_
      refine K_iconst (q := 21) (v := nI 1) dX12_goesRound_20 rfl rfl ?_
      refine K_iast (q := 22) dX12_goesRound_21 rfl (fun M2 => ?_)
      refine K_iinc (q := 25) (v := l2 + (nI 1)) (ll' := [(2, .inl (l2 + (nI 1))), (0, .inr (17, 0, 200)), (1, .inl (l1))]) 2 dX12_goesRound_22 rfl rfl (by decide) rfl rfl ?_
      refine J_goto (tgt := 7) dX12_goesRound_25 rfl ?_
      exact J_sub [1, 2, 0] (ih l1 (l2 + (nI 1)) M2) rfl
def xX12_goesRound   (M : j_M) : Option (Int32 × j_M) := oli (M 200 29) fun v1 => xX12_goesRound_7 fu v1 (nI 0) M
set_option maxRecDepth 20000 in
set_option maxHeartbeats 2000000 in
theorem tX12_goesRound   (M : j_M) : J (ρ := Int32 × j_M) yX12_goesRound cX12_goesRound 6 (some .boolean) 0 0 j_ei 0 [(0, .inr (17, 0, 200))] [] M (xX12_goesRound   M) := by
  unfold xX12_goesRound
  refine K_aload_n (q := 1) 0 dX12_goesRound_0 rfl rfl rfl ?_
  refine K_getI (q := 4) (ci := 7) 29 dX12_goesRound_1 fRX12_398 rfl rfl rfl (fun v1 => ?_)
  refine K_istore_n (q := 5) (ll' := [(1, .inl (v1)), (0, .inr (17, 0, 200))]) dX12_goesRound_4 rfl (by decide) rfl rfl ?_
  refine K_iconst (q := 6) (v := nI 0) dX12_goesRound_5 rfl rfl ?_
  refine K_istore_n (q := 7) (ll' := [(2, .inl ((nI 0))), (1, .inl (v1)), (0, .inr (17, 0, 200))]) dX12_goesRound_6 rfl (by decide) rfl rfl ?_
  exact J_sub [2, 1, 0] (tX12_goesRound_7 fu v1 (nI 0) M) rfl
theorem dX12_hasMiss_0 : decode cX12_hasMiss 0 = .ok (.iconst 0, 1) := by decide +kernel
theorem dX12_hasMiss_1 : decode cX12_hasMiss 1 = .ok (.istore_n 2, 1) := by decide +kernel
theorem dX12_hasMiss_2 : decode cX12_hasMiss 2 = .ok (.iload_n 2, 1) := by decide +kernel
theorem dX12_hasMiss_3 : decode cX12_hasMiss 3 = .ok (.aload_n 0, 1) := by decide +kernel
theorem dX12_hasMiss_4 : decode cX12_hasMiss 4 = .ok (.getfield 9, 3) := by decide +kernel
theorem dX12_hasMiss_7 : decode cX12_hasMiss 7 = .ok (.iconst 0, 1) := by decide +kernel
theorem dX12_hasMiss_8 : decode cX12_hasMiss 8 = .ok (.iaload, 1) := by decide +kernel
theorem dX12_hasMiss_9 : decode cX12_hasMiss 9 = .ok (.if_icmp .ge 34, 3) := by decide +kernel
theorem dX12_hasMiss_12 : decode cX12_hasMiss 12 = .ok (.aload_n 0, 1) := by decide +kernel
theorem dX12_hasMiss_13 : decode cX12_hasMiss 13 = .ok (.getfield 46, 3) := by decide +kernel
theorem dX12_hasMiss_16 : decode cX12_hasMiss 16 = .ok (.sipush 729, 3) := by decide +kernel
theorem dX12_hasMiss_19 : decode cX12_hasMiss 19 = .ok (.iload_n 1, 1) := by decide +kernel
theorem dX12_hasMiss_20 : decode cX12_hasMiss 20 = .ok (.imul, 1) := by decide +kernel
theorem dX12_hasMiss_21 : decode cX12_hasMiss 21 = .ok (.sipush 292, 3) := by decide +kernel
theorem dX12_hasMiss_24 : decode cX12_hasMiss 24 = .ok (.iadd, 1) := by decide +kernel
theorem dX12_hasMiss_25 : decode cX12_hasMiss 25 = .ok (.bipush 14, 2) := by decide +kernel
theorem dX12_hasMiss_27 : decode cX12_hasMiss 27 = .ok (.isub, 1) := by decide +kernel
theorem dX12_hasMiss_28 : decode cX12_hasMiss 28 = .ok (.iload_n 2, 1) := by decide +kernel
theorem dX12_hasMiss_29 : decode cX12_hasMiss 29 = .ok (.iadd, 1) := by decide +kernel
theorem dX12_hasMiss_30 : decode cX12_hasMiss 30 = .ok (.iaload, 1) := by decide +kernel
theorem dX12_hasMiss_31 : decode cX12_hasMiss 31 = .ok (.iconst (-1), 1) := by decide +kernel
theorem dX12_hasMiss_32 : decode cX12_hasMiss 32 = .ok (.if_icmp .eq 5, 3) := by decide +kernel
theorem dX12_hasMiss_35 : decode cX12_hasMiss 35 = .ok (.iconst 1, 1) := by decide +kernel
theorem dX12_hasMiss_36 : decode cX12_hasMiss 36 = .ok (.ireturn, 1) := by decide +kernel
theorem dX12_hasMiss_37 : decode cX12_hasMiss 37 = .ok (.iinc 2 1, 3) := by decide +kernel
theorem dX12_hasMiss_40 : decode cX12_hasMiss 40 = .ok (.goto (-38), 3) := by decide +kernel
theorem dX12_hasMiss_43 : decode cX12_hasMiss 43 = .ok (.iconst 0, 1) := by decide +kernel
theorem dX12_hasMiss_44 : decode cX12_hasMiss 44 = .ok (.ireturn, 1) := by decide +kernel
def xX12_hasMiss_2   : Nat → Int32 → Int32 → j_M → Option (Int32 × j_M)
  | 0, _, _, _ => none
  | n + 1, l1, l2, M => gd (nI 0) 7460 (oli (M 201 (ix (nI 0))) fun v1 => (if v1 ≤ l2 then some ((nI 0), M) else gd (((((nI 729) * l1) + (nI 292)) - (nI 14)) + l2) 182979 (oli (M 211 (ix (((((nI 729) * l1) + (nI 292)) - (nI 14)) + l2))) fun v2 => (if v2 = (-1 : Int32) then xX12_hasMiss_2  n l1 (l2 + (nI 1)) M else some ((nI 1), M)))))
set_option maxRecDepth 20000 in
set_option maxHeartbeats 2000000 in
theorem tX12_hasMiss_2    : ∀ (n : Nat) (l1 : Int32) (l2 : Int32) (M : j_M), J (ρ := Int32 × j_M) yX12_hasMiss cX12_hasMiss 3 (some .boolean) 0 0 j_ei 2 [(0, .inr (17, 0, 200)), (1, .inl (l1)), (2, .inl (l2))] [] M (xX12_hasMiss_2  n l1 l2 M) := by
  intro n
  induction n with
  | zero => intros; exact J_none
  | succ n ih =>
    intro l1 l2 M
    rw [xX12_hasMiss_2.eq_2]
    refine K_iload_n (q := 3) 2 dX12_hasMiss_2 rfl rfl rfl ?_
    refine K_aload_n (q := 4) 0 dX12_hasMiss_3 rfl rfl rfl ?_
    refine K_getR (q := 7) (ci := 7) (a2 := 201) 0 dX12_hasMiss_4 fRX12_9 rfl rfl (by decide) rfl rfl ?_
    refine K_iconst (q := 8) (v := nI 0) dX12_hasMiss_7 rfl rfl ?_
    refine K_iald (q := 9) dX12_hasMiss_8 rfl (fun v1 => ?_)
    refine K_icmp_ge (q := 12) (tgt := 43) dX12_hasMiss_9 rfl ?_ rfl ?_
    · refine K_iconst (q := 44) (v := nI 0) dX12_hasMiss_43 rfl rfl ?_
      exact J_zret dX12_hasMiss_44 (by decide)
    · refine K_aload_n (q := 13) 0 dX12_hasMiss_12 rfl rfl rfl ?_
      refine K_getR (q := 16) (ci := 7) (a2 := 211) 24 dX12_hasMiss_13 fRX12_46 rfl rfl (by decide) rfl rfl ?_
      refine K_sipush (q := 19) (v := nI 729) dX12_hasMiss_16 rfl rfl ?_
      refine K_iload_n (q := 20) 1 dX12_hasMiss_19 rfl rfl rfl ?_
      refine K_imul (q := 21) dX12_hasMiss_20 rfl ?_
      refine K_sipush (q := 24) (v := nI 292) dX12_hasMiss_21 rfl rfl ?_
      refine K_iadd (q := 25) dX12_hasMiss_24 rfl ?_
      refine K_bipush (q := 27) (v := nI 14) dX12_hasMiss_25 rfl rfl ?_
      refine K_isub (q := 28) dX12_hasMiss_27 rfl ?_
      refine K_iload_n (q := 29) 2 dX12_hasMiss_28 rfl rfl rfl ?_
      refine K_iadd (q := 30) dX12_hasMiss_29 rfl ?_
      refine K_iald (q := 31) dX12_hasMiss_30 rfl (fun v2 => ?_)
      refine K_iconst (q := 32) (v := -1) dX12_hasMiss_31 rfl rfl ?_
      refine K_icmp_eq (q := 35) (tgt := 37) dX12_hasMiss_32 rfl ?_ rfl ?_
      · refine K_iinc (q := 40) (v := l2 + (nI 1)) (ll' := [(2, .inl (l2 + (nI 1))), (0, .inr (17, 0, 200)), (1, .inl (l1))]) 2 dX12_hasMiss_37 rfl rfl (by decide) rfl rfl ?_
        refine J_goto (tgt := 2) dX12_hasMiss_40 rfl ?_
        exact J_sub [1, 2, 0] (ih l1 (l2 + (nI 1)) M) rfl
      · refine K_iconst (q := 36) (v := nI 1) dX12_hasMiss_35 rfl rfl ?_
        exact J_zret dX12_hasMiss_36 (by decide)
def xX12_hasMiss  (l1 : Int32) (M : j_M) : Option (Int32 × j_M) := xX12_hasMiss_2 fu l1 (nI 0) M
set_option maxRecDepth 20000 in
set_option maxHeartbeats 2000000 in
theorem tX12_hasMiss  (l1 : Int32) (M : j_M) : J (ρ := Int32 × j_M) yX12_hasMiss cX12_hasMiss 3 (some .boolean) 0 0 j_ei 0 [(0, .inr (17, 0, 200)), (1, .inl (l1))] [] M (xX12_hasMiss  l1 M) := by
  unfold xX12_hasMiss
  refine K_iconst (q := 1) (v := nI 0) dX12_hasMiss_0 rfl rfl ?_
  refine K_istore_n (q := 2) (ll' := [(2, .inl ((nI 0))), (0, .inr (17, 0, 200)), (1, .inl (l1))]) dX12_hasMiss_1 rfl (by decide) rfl rfl ?_
  exact J_sub [1, 2, 0] (tX12_hasMiss_2 fu l1 (nI 0) M) rfl
theorem dX12_isQuiet_0 : decode cX12_isQuiet 0 = .ok (.aload_n 0, 1) := by decide +kernel
theorem dX12_isQuiet_1 : decode cX12_isQuiet 1 = .ok (.getfield 46, 3) := by decide +kernel
theorem dX12_isQuiet_4 : decode cX12_isQuiet 4 = .ok (.sipush 729, 3) := by decide +kernel
theorem dX12_isQuiet_7 : decode cX12_isQuiet 7 = .ok (.iload_n 1, 1) := by decide +kernel
theorem dX12_isQuiet_8 : decode cX12_isQuiet 8 = .ok (.imul, 1) := by decide +kernel
theorem dX12_isQuiet_9 : decode cX12_isQuiet 9 = .ok (.sipush 512, 3) := by decide +kernel
theorem dX12_isQuiet_12 : decode cX12_isQuiet 12 = .ok (.iadd, 1) := by decide +kernel
theorem dX12_isQuiet_13 : decode cX12_isQuiet 13 = .ok (.iaload, 1) := by decide +kernel
theorem dX12_isQuiet_14 : decode cX12_isQuiet 14 = .ok (.ifCond .ne 7, 3) := by decide +kernel
theorem dX12_isQuiet_17 : decode cX12_isQuiet 17 = .ok (.iconst 1, 1) := by decide +kernel
theorem dX12_isQuiet_18 : decode cX12_isQuiet 18 = .ok (.goto 4, 3) := by decide +kernel
theorem dX12_isQuiet_21 : decode cX12_isQuiet 21 = .ok (.iconst 0, 1) := by decide +kernel
theorem dX12_isQuiet_22 : decode cX12_isQuiet 22 = .ok (.ireturn, 1) := by decide +kernel
def xX12_isQuiet  (l1 : Int32) (M : j_M) : Option (Int32 × j_M) := gd (((nI 729) * l1) + (nI 512)) 182979 (oli (M 211 (ix (((nI 729) * l1) + (nI 512)))) fun v1 => (if v1 = (0 : Int32) then some ((nI 1), M) else some ((nI 0), M)))
set_option maxRecDepth 20000 in
set_option maxHeartbeats 2000000 in
theorem tX12_isQuiet  (l1 : Int32) (M : j_M) : J (ρ := Int32 × j_M) yX12_isQuiet cX12_isQuiet 2 (some .boolean) 0 0 j_ei 0 [(0, .inr (17, 0, 200)), (1, .inl (l1))] [] M (xX12_isQuiet  l1 M) := by
  unfold xX12_isQuiet
  refine K_aload_n (q := 1) 0 dX12_isQuiet_0 rfl rfl rfl ?_
  refine K_getR (q := 4) (ci := 7) (a2 := 211) 24 dX12_isQuiet_1 fRX12_46 rfl rfl (by decide) rfl rfl ?_
  refine K_sipush (q := 7) (v := nI 729) dX12_isQuiet_4 rfl rfl ?_
  refine K_iload_n (q := 8) 1 dX12_isQuiet_7 rfl rfl rfl ?_
  refine K_imul (q := 9) dX12_isQuiet_8 rfl ?_
  refine K_sipush (q := 12) (v := nI 512) dX12_isQuiet_9 rfl rfl ?_
  refine K_iadd (q := 13) dX12_isQuiet_12 rfl ?_
  refine K_iald (q := 14) dX12_isQuiet_13 rfl (fun v1 => ?_)
  refine K_if_ne (q := 17) (tgt := 21) dX12_isQuiet_14 rfl ?_ rfl ?_
  · refine K_iconst (q := 22) (v := nI 0) dX12_isQuiet_21 rfl rfl ?_
    exact J_zret dX12_isQuiet_22 (by decide)
  · refine K_iconst (q := 18) (v := nI 1) dX12_isQuiet_17 rfl rfl ?_
    refine J_goto (tgt := 22) dX12_isQuiet_18 rfl ?_
    exact J_zret dX12_isQuiet_22 (by decide)
theorem dX12_tells_0 : decode cX12_tells 0 = .ok (.iconst 0, 1) := by decide +kernel
theorem dX12_tells_1 : decode cX12_tells 1 = .ok (.istore_n 2, 1) := by decide +kernel
theorem dX12_tells_2 : decode cX12_tells 2 = .ok (.iconst 0, 1) := by decide +kernel
theorem dX12_tells_3 : decode cX12_tells 3 = .ok (.istore_n 3, 1) := by decide +kernel
theorem dX12_tells_4 : decode cX12_tells 4 = .ok (.iconst (-1), 1) := by decide +kernel
theorem dX12_tells_5 : decode cX12_tells 5 = .ok (.istore 4, 2) := by decide +kernel
theorem dX12_tells_7 : decode cX12_tells 7 = .ok (.aload_n 0, 1) := by decide +kernel
theorem dX12_tells_8 : decode cX12_tells 8 = .ok (.getfield 398, 3) := by decide +kernel
theorem dX12_tells_11 : decode cX12_tells 11 = .ok (.iconst 1, 1) := by decide +kernel
theorem dX12_tells_12 : decode cX12_tells 12 = .ok (.isub, 1) := by decide +kernel
theorem dX12_tells_13 : decode cX12_tells 13 = .ok (.istore 5, 2) := by decide +kernel
theorem dX12_tells_15 : decode cX12_tells 15 = .ok (.iload 5, 2) := by decide +kernel
theorem dX12_tells_17 : decode cX12_tells 17 = .ok (.ifCond .lt 73, 3) := by decide +kernel
theorem dX12_tells_20 : decode cX12_tells 20 = .ok (.aload_n 0, 1) := by decide +kernel
theorem dX12_tells_21 : decode cX12_tells 21 = .ok (.iload 5, 2) := by decide +kernel
theorem dX12_tells_23 : decode cX12_tells 23 = .ok (.invokevirtual 416, 3) := by decide +kernel
theorem dX12_tells_26 : decode cX12_tells 26 = .ok (.ifCond .ne 6, 3) := by decide +kernel
theorem dX12_tells_29 : decode cX12_tells 29 = .ok (.goto 55, 3) := by decide +kernel
theorem dX12_tells_32 : decode cX12_tells 32 = .ok (.iinc 2 1, 3) := by decide +kernel
theorem dX12_tells_35 : decode cX12_tells 35 = .ok (.iload_n 3, 1) := by decide +kernel
theorem dX12_tells_36 : decode cX12_tells 36 = .ok (.aload_n 0, 1) := by decide +kernel
theorem dX12_tells_37 : decode cX12_tells 37 = .ok (.iload 5, 2) := by decide +kernel
theorem dX12_tells_39 : decode cX12_tells 39 = .ok (.invokevirtual 419, 3) := by decide +kernel
theorem dX12_tells_42 : decode cX12_tells 42 = .ok (.ifCond .eq 7, 3) := by decide +kernel
theorem dX12_tells_45 : decode cX12_tells 45 = .ok (.iconst 1, 1) := by decide +kernel
theorem dX12_tells_46 : decode cX12_tells 46 = .ok (.goto 4, 3) := by decide +kernel
theorem dX12_tells_49 : decode cX12_tells 49 = .ok (.iconst 0, 1) := by decide +kernel
theorem dX12_tells_50 : decode cX12_tells 50 = .ok (.iadd, 1) := by decide +kernel
theorem dX12_tells_51 : decode cX12_tells 51 = .ok (.istore_n 3, 1) := by decide +kernel
theorem dX12_tells_52 : decode cX12_tells 52 = .ok (.iload 4, 2) := by decide +kernel
theorem dX12_tells_54 : decode cX12_tells 54 = .ok (.iconst (-1), 1) := by decide +kernel
theorem dX12_tells_55 : decode cX12_tells 55 = .ok (.if_icmp .eq 15, 3) := by decide +kernel
theorem dX12_tells_58 : decode cX12_tells 58 = .ok (.aload_n 0, 1) := by decide +kernel
theorem dX12_tells_59 : decode cX12_tells 59 = .ok (.getfield 49, 3) := by decide +kernel
theorem dX12_tells_62 : decode cX12_tells 62 = .ok (.iload 5, 2) := by decide +kernel
theorem dX12_tells_64 : decode cX12_tells 64 = .ok (.iaload, 1) := by decide +kernel
theorem dX12_tells_65 : decode cX12_tells 65 = .ok (.iload 4, 2) := by decide +kernel
theorem dX12_tells_67 : decode cX12_tells 67 = .ok (.if_icmp .ge 13, 3) := by decide +kernel
theorem dX12_tells_70 : decode cX12_tells 70 = .ok (.aload_n 0, 1) := by decide +kernel
theorem dX12_tells_71 : decode cX12_tells 71 = .ok (.getfield 49, 3) := by decide +kernel
theorem dX12_tells_74 : decode cX12_tells 74 = .ok (.iload 5, 2) := by decide +kernel
theorem dX12_tells_76 : decode cX12_tells 76 = .ok (.iaload, 1) := by decide +kernel
theorem dX12_tells_77 : decode cX12_tells 77 = .ok (.goto 5, 3) := by decide +kernel
theorem dX12_tells_80 : decode cX12_tells 80 = .ok (.iload 4, 2) := by decide +kernel
theorem dX12_tells_82 : decode cX12_tells 82 = .ok (.istore 4, 2) := by decide +kernel
theorem dX12_tells_84 : decode cX12_tells 84 = .ok (.iinc 5 (-1), 3) := by decide +kernel
theorem dX12_tells_87 : decode cX12_tells 87 = .ok (.goto (-72), 3) := by decide +kernel
theorem dX12_tells_90 : decode cX12_tells 90 = .ok (.iload_n 1, 1) := by decide +kernel
theorem dX12_tells_91 : decode cX12_tells 91 = .ok (.tableswitch 41 0 3 #[29, 34, 36, 38], 29) := by decide +kernel
theorem dX12_tells_120 : decode cX12_tells 120 = .ok (.aload_n 0, 1) := by decide +kernel
theorem dX12_tells_121 : decode cX12_tells 121 = .ok (.getfield 398, 3) := by decide +kernel
theorem dX12_tells_124 : decode cX12_tells 124 = .ok (.ireturn, 1) := by decide +kernel
theorem dX12_tells_125 : decode cX12_tells 125 = .ok (.iload_n 2, 1) := by decide +kernel
theorem dX12_tells_126 : decode cX12_tells 126 = .ok (.ireturn, 1) := by decide +kernel
theorem dX12_tells_127 : decode cX12_tells 127 = .ok (.iload_n 3, 1) := by decide +kernel
theorem dX12_tells_128 : decode cX12_tells 128 = .ok (.ireturn, 1) := by decide +kernel
theorem dX12_tells_129 : decode cX12_tells 129 = .ok (.iload 4, 2) := by decide +kernel
theorem dX12_tells_131 : decode cX12_tells 131 = .ok (.ireturn, 1) := by decide +kernel
theorem dX12_tells_132 : decode cX12_tells 132 = .ok (.aload_n 0, 1) := by decide +kernel
theorem dX12_tells_133 : decode cX12_tells 133 = .ok (.invokevirtual 422, 3) := by decide +kernel
theorem dX12_tells_136 : decode cX12_tells 136 = .ok (.ifCond .eq 7, 3) := by decide +kernel
theorem dX12_tells_139 : decode cX12_tells 139 = .ok (.iconst 1, 1) := by decide +kernel
theorem dX12_tells_140 : decode cX12_tells 140 = .ok (.goto 4, 3) := by decide +kernel
theorem dX12_tells_143 : decode cX12_tells 143 = .ok (.iconst 0, 1) := by decide +kernel
theorem dX12_tells_144 : decode cX12_tells 144 = .ok (.ireturn, 1) := by decide +kernel
def xX12_tells_82 (k15 : Int32 → Int32 → Int32 → Int32 → Int32 → j_M → Option (Int32 × j_M))  (l1 : Int32) (l2 : Int32) (l3 : Int32) (l5 : Int32) (s0 : Int32) (M : j_M) : Option (Int32 × j_M) := k15 l1 l2 l3 s0 (l5 + (-1 : Int32)) M
set_option maxRecDepth 20000 in
set_option maxHeartbeats 2000000 in
theorem tX12_tells_82 (k15 : Int32 → Int32 → Int32 → Int32 → Int32 → j_M → Option (Int32 × j_M))  (hk15 : ∀ (l1 : Int32) (l2 : Int32) (l3 : Int32) (l4 : Int32) (l5 : Int32) (M : j_M), J (ρ := Int32 × j_M) yX12_tells cX12_tells 6 (some .int) 1 25 j_ei 15 [(0, .inr (17, 0, 200)), (1, .inl (l1)), (2, .inl (l2)), (3, .inl (l3)), (4, .inl (l4)), (5, .inl (l5))] [] M (k15 l1 l2 l3 l4 l5 M)) (l1 : Int32) (l2 : Int32) (l3 : Int32) (l5 : Int32) (s0 : Int32) (M : j_M) : J (ρ := Int32 × j_M) yX12_tells cX12_tells 6 (some .int) 1 25 j_ei 82 [(0, .inr (17, 0, 200)), (1, .inl (l1)), (2, .inl (l2)), (3, .inl (l3)), (5, .inl (l5))] [.inl (s0)] M (xX12_tells_82 k15 l1 l2 l3 l5 s0 M) := by
  unfold xX12_tells_82
  refine K_istore (q := 84) (ll' := [(4, .inl (s0)), (0, .inr (17, 0, 200)), (1, .inl (l1)), (2, .inl (l2)), (3, .inl (l3)), (5, .inl (l5))]) dX12_tells_82 (by decide) rfl rfl ?_
  refine K_iinc (q := 87) (v := l5 + (-1 : Int32)) (ll' := [(5, .inl (l5 + (-1 : Int32))), (4, .inl (s0)), (0, .inr (17, 0, 200)), (1, .inl (l1)), (2, .inl (l2)), (3, .inl (l3))]) 5 dX12_tells_84 rfl rfl (by decide) rfl rfl ?_
  refine J_goto (tgt := 15) dX12_tells_87 rfl ?_
  exact J_sub [2, 3, 4, 5, 1, 0] (hk15 l1 l2 l3 s0 (l5 + (-1 : Int32)) M) rfl
def xX12_tells_70 (k15 : Int32 → Int32 → Int32 → Int32 → Int32 → j_M → Option (Int32 × j_M))  (l1 : Int32) (l2 : Int32) (l3 : Int32) (l5 : Int32) (M : j_M) : Option (Int32 × j_M) := gd l5 251 (oli (M 212 (ix l5)) fun v1 => xX12_tells_82 k15 l1 l2 l3 l5 v1 M)
set_option maxRecDepth 20000 in
set_option maxHeartbeats 2000000 in
theorem tX12_tells_70 (k15 : Int32 → Int32 → Int32 → Int32 → Int32 → j_M → Option (Int32 × j_M))  (hk15 : ∀ (l1 : Int32) (l2 : Int32) (l3 : Int32) (l4 : Int32) (l5 : Int32) (M : j_M), J (ρ := Int32 × j_M) yX12_tells cX12_tells 6 (some .int) 1 25 j_ei 15 [(0, .inr (17, 0, 200)), (1, .inl (l1)), (2, .inl (l2)), (3, .inl (l3)), (4, .inl (l4)), (5, .inl (l5))] [] M (k15 l1 l2 l3 l4 l5 M)) (l1 : Int32) (l2 : Int32) (l3 : Int32) (l5 : Int32) (M : j_M) : J (ρ := Int32 × j_M) yX12_tells cX12_tells 6 (some .int) 1 25 j_ei 70 [(0, .inr (17, 0, 200)), (1, .inl (l1)), (2, .inl (l2)), (3, .inl (l3)), (5, .inl (l5))] [] M (xX12_tells_70 k15 l1 l2 l3 l5 M) := by
  unfold xX12_tells_70
  refine K_aload_n (q := 71) 0 dX12_tells_70 rfl rfl rfl ?_
  refine K_getR (q := 74) (ci := 7) (a2 := 212) 25 dX12_tells_71 fRX12_49 rfl rfl (by decide) rfl rfl ?_
  refine K_iload (q := 76) 4 dX12_tells_74 rfl rfl ?_
  refine K_iald (q := 77) dX12_tells_76 rfl (fun v1 => ?_)
  refine J_goto (tgt := 82) dX12_tells_77 rfl ?_
  exact J_sub [0, 1, 2, 3, 4] (tX12_tells_82 k15 hk15 l1 l2 l3 l5 v1 M) rfl
def xX12_tells_50 (k15 : Int32 → Int32 → Int32 → Int32 → Int32 → j_M → Option (Int32 × j_M))  (l1 : Int32) (l2 : Int32) (l4 : Int32) (l5 : Int32) (s1 : Int32) (s0 : Int32) (M : j_M) : Option (Int32 × j_M) := (if l4 = (-1 : Int32) then xX12_tells_70 k15 l1 l2 (s1 + s0) l5 M else gd l5 251 (oli (M 212 (ix l5)) fun v1 => (if l4 ≤ v1 then xX12_tells_82 k15 l1 l2 (s1 + s0) l5 l4 M else xX12_tells_70 k15 l1 l2 (s1 + s0) l5 M)))
set_option maxRecDepth 20000 in
set_option maxHeartbeats 2000000 in
theorem tX12_tells_50 (k15 : Int32 → Int32 → Int32 → Int32 → Int32 → j_M → Option (Int32 × j_M))  (hk15 : ∀ (l1 : Int32) (l2 : Int32) (l3 : Int32) (l4 : Int32) (l5 : Int32) (M : j_M), J (ρ := Int32 × j_M) yX12_tells cX12_tells 6 (some .int) 1 25 j_ei 15 [(0, .inr (17, 0, 200)), (1, .inl (l1)), (2, .inl (l2)), (3, .inl (l3)), (4, .inl (l4)), (5, .inl (l5))] [] M (k15 l1 l2 l3 l4 l5 M)) (l1 : Int32) (l2 : Int32) (l4 : Int32) (l5 : Int32) (s1 : Int32) (s0 : Int32) (M : j_M) : J (ρ := Int32 × j_M) yX12_tells cX12_tells 6 (some .int) 1 25 j_ei 50 [(0, .inr (17, 0, 200)), (1, .inl (l1)), (2, .inl (l2)), (4, .inl (l4)), (5, .inl (l5))] [.inl (s0), .inl (s1)] M (xX12_tells_50 k15 l1 l2 l4 l5 s1 s0 M) := by
  unfold xX12_tells_50
  refine K_iadd (q := 51) dX12_tells_50 rfl ?_
  refine K_istore_n (q := 52) (ll' := [(3, .inl (s1 + s0)), (0, .inr (17, 0, 200)), (1, .inl (l1)), (2, .inl (l2)), (4, .inl (l4)), (5, .inl (l5))]) dX12_tells_51 rfl (by decide) rfl rfl ?_
  refine K_iload (q := 54) 4 dX12_tells_52 rfl rfl ?_
  refine K_iconst (q := 55) (v := -1) dX12_tells_54 rfl rfl ?_
  refine K_icmp_eq (q := 58) (tgt := 70) dX12_tells_55 rfl ?_ rfl ?_
  · exact J_sub [1, 2, 3, 0, 5] (tX12_tells_70 k15 hk15 l1 l2 (s1 + s0) l5 M) rfl
  · refine K_aload_n (q := 59) 1 dX12_tells_58 rfl rfl rfl ?_
    refine K_getR (q := 62) (ci := 7) (a2 := 212) 25 dX12_tells_59 fRX12_49 rfl rfl (by decide) rfl rfl ?_
    refine K_iload (q := 64) 5 dX12_tells_62 rfl rfl ?_
    refine K_iald (q := 65) dX12_tells_64 rfl (fun v1 => ?_)
    refine K_iload (q := 67) 4 dX12_tells_65 rfl rfl ?_
    refine K_icmp_ge (q := 70) (tgt := 80) dX12_tells_67 rfl ?_ rfl ?_
    · refine K_iload (q := 82) 4 dX12_tells_80 rfl rfl ?_
      exact J_sub [1, 2, 3, 0, 5] (tX12_tells_82 k15 hk15 l1 l2 (s1 + s0) l5 l4 M) rfl
    · exact J_sub [1, 2, 3, 0, 5] (tX12_tells_70 k15 hk15 l1 l2 (s1 + s0) l5 M) rfl
def xX12_tells_15   : Nat → Int32 → Int32 → Int32 → Int32 → Int32 → j_M → Option (Int32 × j_M)
  | 0, _, _, _, _, _, _ => none
  | n + 1, l1, l2, l3, l4, l5, M => (if l5 < (0 : Int32) then osw l1 [((nI 0), oli (M 200 29) fun v1 => some (v1, M)), ((nI 1), some (l2, M)), ((nI 2), some (l3, M)), ((nI 3), some (l4, M))] (obi (xX12_goesRound M) fun v3 M2 => (if v3 = (0 : Int32) then some ((nI 0), M2) else some ((nI 1), M2))) else obi (xX12_isQuiet l5 M) fun v5 M4 => (if v5 = (0 : Int32) then xX12_tells_15  n l1 l2 l3 l4 (l5 + (-1 : Int32)) M4 else obi (xX12_hasMiss l5 M4) fun v7 M6 => (if v7 = (0 : Int32) then xX12_tells_50 (xX12_tells_15  n) l1 (l2 + (nI 1)) l4 l5 l3 (nI 0) M6 else xX12_tells_50 (xX12_tells_15  n) l1 (l2 + (nI 1)) l4 l5 l3 (nI 1) M6)))
set_option maxRecDepth 20000 in
set_option maxHeartbeats 2000000 in
theorem tX12_tells_15    : ∀ (n : Nat) (l1 : Int32) (l2 : Int32) (l3 : Int32) (l4 : Int32) (l5 : Int32) (M : j_M), J (ρ := Int32 × j_M) yX12_tells cX12_tells 6 (some .int) 1 25 j_ei 15 [(0, .inr (17, 0, 200)), (1, .inl (l1)), (2, .inl (l2)), (3, .inl (l3)), (4, .inl (l4)), (5, .inl (l5))] [] M (xX12_tells_15  n l1 l2 l3 l4 l5 M) := by
  intro n
  induction n with
  | zero => intros; exact J_none
  | succ n ih =>
    intro l1 l2 l3 l4 l5 M
    rw [xX12_tells_15.eq_2]
    refine K_iload (q := 17) 5 dX12_tells_15 rfl rfl ?_
    refine K_if_lt (q := 20) (tgt := 90) dX12_tells_17 rfl ?_ rfl ?_
    · refine K_iload_n (q := 91) 1 dX12_tells_90 rfl rfl rfl ?_
      refine K_tsw (dt := 132) [120, 125, 127, 129] dX12_tells_91 rfl rfl rfl rfl ⟨?_, ?_, ?_, ?_, trivial⟩ ?_
      · refine K_aload_n (q := 121) 0 dX12_tells_120 rfl rfl rfl ?_
        refine K_getI (q := 124) (ci := 7) 29 dX12_tells_121 fRX12_398 rfl rfl rfl (fun v1 => ?_)
        exact J_iret dX12_tells_124
      · refine K_iload_n (q := 126) 2 dX12_tells_125 rfl rfl rfl ?_
        exact J_iret dX12_tells_126
      · refine K_iload_n (q := 128) 3 dX12_tells_127 rfl rfl rfl ?_
        exact J_iret dX12_tells_128
      · refine K_iload (q := 131) 4 dX12_tells_129 rfl rfl ?_
        exact J_iret dX12_tells_131
      · refine K_aload_n (q := 133) 0 dX12_tells_132 rfl rfl rfl ?_
        refine K_cvi (q := 136) [] dX12_tells_133 cb_X12_goesRound cvRX12_422 rc_7 (show (17 : Nat) ≠ 0 by decide) rfl (Nat.le_of_ble_eq_true rfl) ⟨by decide, by decide⟩ (Nat.le_of_ble_eq_true rfl) rfl (tX12_goesRound M) rfl (fun v3 M2 => ?_)
        refine K_if_eq (q := 139) (tgt := 143) dX12_tells_136 rfl ?_ rfl ?_
        · refine K_iconst (q := 144) (v := nI 0) dX12_tells_143 rfl rfl ?_
          exact J_iret dX12_tells_144
        · refine K_iconst (q := 140) (v := nI 1) dX12_tells_139 rfl rfl ?_
          refine J_goto (tgt := 144) dX12_tells_140 rfl ?_
          exact J_iret dX12_tells_144
    · refine K_aload_n (q := 21) 0 dX12_tells_20 rfl rfl rfl ?_
      refine K_iload (q := 23) 5 dX12_tells_21 rfl rfl ?_
      refine K_cvi (q := 26) [.inl (l5)] dX12_tells_23 cb_X12_isQuiet cvRX12_416 rc_7 (show (17 : Nat) ≠ 0 by decide) rfl (Nat.le_of_ble_eq_true rfl) ⟨by decide, by decide⟩ (Nat.le_of_ble_eq_true rfl) rfl (tX12_isQuiet l5 M) rfl (fun v5 M4 => ?_)
      refine K_if_ne (q := 29) (tgt := 32) dX12_tells_26 rfl ?_ rfl ?_
      · refine K_iinc (q := 35) (v := l2 + (nI 1)) (ll' := [(2, .inl (l2 + (nI 1))), (0, .inr (17, 0, 200)), (1, .inl (l1)), (3, .inl (l3)), (4, .inl (l4)), (5, .inl (l5))]) 2 dX12_tells_32 rfl rfl (by decide) rfl rfl ?_
        refine K_iload_n (q := 36) 3 dX12_tells_35 rfl rfl rfl ?_
        refine K_aload_n (q := 37) 1 dX12_tells_36 rfl rfl rfl ?_
        refine K_iload (q := 39) 5 dX12_tells_37 rfl rfl ?_
        refine K_cvi (q := 42) [.inl (l5)] dX12_tells_39 cb_X12_hasMiss cvRX12_419 rc_7 (show (17 : Nat) ≠ 0 by decide) rfl (Nat.le_of_ble_eq_true rfl) ⟨by decide, by decide⟩ (Nat.le_of_ble_eq_true rfl) rfl (tX12_hasMiss l5 M4) rfl (fun v7 M6 => ?_)
        refine K_if_eq (q := 45) (tgt := 49) dX12_tells_42 rfl ?_ rfl ?_
        · refine K_iconst (q := 50) (v := nI 0) dX12_tells_49 rfl rfl ?_
          exact J_sub [1, 2, 0, 4, 5] (tX12_tells_50 (xX12_tells_15  n) ih l1 (l2 + (nI 1)) l4 l5 l3 (nI 0) M6) rfl
        · refine K_iconst (q := 46) (v := nI 1) dX12_tells_45 rfl rfl ?_
          refine J_goto (tgt := 50) dX12_tells_46 rfl ?_
          exact J_sub [1, 2, 0, 4, 5] (tX12_tells_50 (xX12_tells_15  n) ih l1 (l2 + (nI 1)) l4 l5 l3 (nI 1) M6) rfl
      · refine J_goto (tgt := 84) dX12_tells_29 rfl ?_
        refine K_iinc (q := 87) (v := l5 + (-1 : Int32)) (ll' := [(5, .inl (l5 + (-1 : Int32))), (0, .inr (17, 0, 200)), (1, .inl (l1)), (2, .inl (l2)), (3, .inl (l3)), (4, .inl (l4))]) 5 dX12_tells_84 rfl rfl (by decide) rfl rfl ?_
        refine J_goto (tgt := 15) dX12_tells_87 rfl ?_
        exact J_sub [1, 2, 3, 4, 5, 0] (ih l1 l2 l3 l4 (l5 + (-1 : Int32)) M4) rfl
def xX12_tells  (l1 : Int32) (M : j_M) : Option (Int32 × j_M) := oli (M 200 29) fun v1 => xX12_tells_15 fu l1 (nI 0) (nI 0) (-1 : Int32) (v1 - (nI 1)) M
set_option maxRecDepth 20000 in
set_option maxHeartbeats 2000000 in
theorem tX12_tells  (l1 : Int32) (M : j_M) : J (ρ := Int32 × j_M) yX12_tells cX12_tells 6 (some .int) 1 25 j_ei 0 [(0, .inr (17, 0, 200)), (1, .inl (l1))] [] M (xX12_tells  l1 M) := by
  unfold xX12_tells
  refine K_iconst (q := 1) (v := nI 0) dX12_tells_0 rfl rfl ?_
  refine K_istore_n (q := 2) (ll' := [(2, .inl ((nI 0))), (0, .inr (17, 0, 200)), (1, .inl (l1))]) dX12_tells_1 rfl (by decide) rfl rfl ?_
  refine K_iconst (q := 3) (v := nI 0) dX12_tells_2 rfl rfl ?_
  refine K_istore_n (q := 4) (ll' := [(3, .inl ((nI 0))), (2, .inl ((nI 0))), (0, .inr (17, 0, 200)), (1, .inl (l1))]) dX12_tells_3 rfl (by decide) rfl rfl ?_
  refine K_iconst (q := 5) (v := -1) dX12_tells_4 rfl rfl ?_
  refine K_istore (q := 7) (ll' := [(4, .inl ((-1 : Int32))), (3, .inl ((nI 0))), (2, .inl ((nI 0))), (0, .inr (17, 0, 200)), (1, .inl (l1))]) dX12_tells_5 (by decide) rfl rfl ?_
  refine K_aload_n (q := 8) 3 dX12_tells_7 rfl rfl rfl ?_
  refine K_getI (q := 11) (ci := 7) 29 dX12_tells_8 fRX12_398 rfl rfl rfl (fun v1 => ?_)
  refine K_iconst (q := 12) (v := nI 1) dX12_tells_11 rfl rfl ?_
  refine K_isub (q := 13) dX12_tells_12 rfl ?_
  refine K_istore (q := 15) (ll' := [(5, .inl (v1 - (nI 1))), (4, .inl ((-1 : Int32))), (3, .inl ((nI 0))), (2, .inl ((nI 0))), (0, .inr (17, 0, 200)), (1, .inl (l1))]) dX12_tells_13 (by decide) rfl rfl ?_
  exact J_sub [4, 5, 3, 2, 1, 0] (tX12_tells_15 fu l1 (nI 0) (nI 0) (-1 : Int32) (v1 - (nI 1)) M) rfl
theorem dX12_isLikeAhead_0 : decode cX12_isLikeAhead 0 = .ok (.iload_n 1, 1) := by decide +kernel
theorem dX12_isLikeAhead_1 : decode cX12_isLikeAhead 1 = .ok (.ifCond .le 29, 3) := by decide +kernel
theorem dX12_isLikeAhead_4 : decode cX12_isLikeAhead 4 = .ok (.aload_n 0, 1) := by decide +kernel
theorem dX12_isLikeAhead_5 : decode cX12_isLikeAhead 5 = .ok (.iload_n 1, 1) := by decide +kernel
theorem dX12_isLikeAhead_6 : decode cX12_isLikeAhead 6 = .ok (.iload_n 1, 1) := by decide +kernel
theorem dX12_isLikeAhead_7 : decode cX12_isLikeAhead 7 = .ok (.iconst 1, 1) := by decide +kernel
theorem dX12_isLikeAhead_8 : decode cX12_isLikeAhead 8 = .ok (.isub, 1) := by decide +kernel
theorem dX12_isLikeAhead_9 : decode cX12_isLikeAhead 9 = .ok (.invokevirtual 383, 3) := by decide +kernel
theorem dX12_isLikeAhead_12 : decode cX12_isLikeAhead 12 = .ok (.ifCond .ne 18, 3) := by decide +kernel
theorem dX12_isLikeAhead_15 : decode cX12_isLikeAhead 15 = .ok (.aload_n 0, 1) := by decide +kernel
theorem dX12_isLikeAhead_16 : decode cX12_isLikeAhead 16 = .ok (.iload_n 1, 1) := by decide +kernel
theorem dX12_isLikeAhead_17 : decode cX12_isLikeAhead 17 = .ok (.iconst 1, 1) := by decide +kernel
theorem dX12_isLikeAhead_18 : decode cX12_isLikeAhead 18 = .ok (.isub, 1) := by decide +kernel
theorem dX12_isLikeAhead_19 : decode cX12_isLikeAhead 19 = .ok (.iload_n 1, 1) := by decide +kernel
theorem dX12_isLikeAhead_20 : decode cX12_isLikeAhead 20 = .ok (.invokevirtual 383, 3) := by decide +kernel
theorem dX12_isLikeAhead_23 : decode cX12_isLikeAhead 23 = .ok (.ifCond .ne 7, 3) := by decide +kernel
theorem dX12_isLikeAhead_26 : decode cX12_isLikeAhead 26 = .ok (.iconst 1, 1) := by decide +kernel
theorem dX12_isLikeAhead_27 : decode cX12_isLikeAhead 27 = .ok (.goto 4, 3) := by decide +kernel
theorem dX12_isLikeAhead_30 : decode cX12_isLikeAhead 30 = .ok (.iconst 0, 1) := by decide +kernel
theorem dX12_isLikeAhead_31 : decode cX12_isLikeAhead 31 = .ok (.ireturn, 1) := by decide +kernel
def xX12_isLikeAhead  (l1 : Int32) (M : j_M) : Option (Int32 × j_M) := (if l1 ≤ (0 : Int32) then some ((nI 0), M) else obi (xX12_isBehind l1 (l1 - (nI 1)) M) fun v2 M1 => (if v2 = (0 : Int32) then obi (xX12_isBehind (l1 - (nI 1)) l1 M1) fun v4 M3 => (if v4 = (0 : Int32) then some ((nI 1), M3) else some ((nI 0), M3)) else some ((nI 0), M1)))
set_option maxRecDepth 20000 in
set_option maxHeartbeats 2000000 in
theorem tX12_isLikeAhead  (l1 : Int32) (M : j_M) : J (ρ := Int32 × j_M) yX12_isLikeAhead cX12_isLikeAhead 2 (some .boolean) 2 45 j_ei 0 [(0, .inr (17, 0, 200)), (1, .inl (l1))] [] M (xX12_isLikeAhead  l1 M) := by
  unfold xX12_isLikeAhead
  refine K_iload_n (q := 1) 1 dX12_isLikeAhead_0 rfl rfl rfl ?_
  refine K_if_le (q := 4) (tgt := 30) dX12_isLikeAhead_1 rfl ?_ rfl ?_
  · refine K_iconst (q := 31) (v := nI 0) dX12_isLikeAhead_30 rfl rfl ?_
    exact J_zret dX12_isLikeAhead_31 (by decide)
  · refine K_aload_n (q := 5) 0 dX12_isLikeAhead_4 rfl rfl rfl ?_
    refine K_iload_n (q := 6) 1 dX12_isLikeAhead_5 rfl rfl rfl ?_
    refine K_iload_n (q := 7) 1 dX12_isLikeAhead_6 rfl rfl rfl ?_
    refine K_iconst (q := 8) (v := nI 1) dX12_isLikeAhead_7 rfl rfl ?_
    refine K_isub (q := 9) dX12_isLikeAhead_8 rfl ?_
    refine K_cvi (q := 12) [.inl (l1), .inl (l1 - (nI 1))] dX12_isLikeAhead_9 cb_X12_isBehind cvRX12_383 rc_7 (show (17 : Nat) ≠ 0 by decide) rfl (Nat.le_of_ble_eq_true rfl) ⟨by decide, by decide⟩ (Nat.le_of_ble_eq_true rfl) rfl (tX12_isBehind l1 (l1 - (nI 1)) M) rfl (fun v2 M1 => ?_)
    refine K_if_ne (q := 15) (tgt := 30) dX12_isLikeAhead_12 rfl ?_ rfl ?_
    · refine K_iconst (q := 31) (v := nI 0) dX12_isLikeAhead_30 rfl rfl ?_
      exact J_zret dX12_isLikeAhead_31 (by decide)
    · refine K_aload_n (q := 16) 0 dX12_isLikeAhead_15 rfl rfl rfl ?_
      refine K_iload_n (q := 17) 1 dX12_isLikeAhead_16 rfl rfl rfl ?_
      refine K_iconst (q := 18) (v := nI 1) dX12_isLikeAhead_17 rfl rfl ?_
      refine K_isub (q := 19) dX12_isLikeAhead_18 rfl ?_
      refine K_iload_n (q := 20) 1 dX12_isLikeAhead_19 rfl rfl rfl ?_
      refine K_cvi (q := 23) [.inl (l1 - (nI 1)), .inl (l1)] dX12_isLikeAhead_20 cb_X12_isBehind cvRX12_383 rc_7 (show (17 : Nat) ≠ 0 by decide) rfl (Nat.le_of_ble_eq_true rfl) ⟨by decide, by decide⟩ (Nat.le_of_ble_eq_true rfl) rfl (tX12_isBehind (l1 - (nI 1)) l1 M1) rfl (fun v4 M3 => ?_)
      refine K_if_ne (q := 26) (tgt := 30) dX12_isLikeAhead_23 rfl ?_ rfl ?_
      · refine K_iconst (q := 31) (v := nI 0) dX12_isLikeAhead_30 rfl rfl ?_
        exact J_zret dX12_isLikeAhead_31 (by decide)
      · refine K_iconst (q := 27) (v := nI 1) dX12_isLikeAhead_26 rfl rfl ?_
        refine J_goto (tgt := 31) dX12_isLikeAhead_27 rfl ?_
        exact J_zret dX12_isLikeAhead_31 (by decide)
theorem dX12_laysState_0 : decode cX12_laysState 0 = .ok (.iconst 0, 1) := by decide +kernel
theorem dX12_laysState_1 : decode cX12_laysState 1 = .ok (.istore_n 2, 1) := by decide +kernel
theorem dX12_laysState_2 : decode cX12_laysState 2 = .ok (.iload_n 2, 1) := by decide +kernel
theorem dX12_laysState_3 : decode cX12_laysState 3 = .ok (.sipush 512, 3) := by decide +kernel
theorem dX12_laysState_6 : decode cX12_laysState 6 = .ok (.if_icmp .ge 30, 3) := by decide +kernel
theorem dX12_laysState_9 : decode cX12_laysState 9 = .ok (.aload_n 0, 1) := by decide +kernel
theorem dX12_laysState_10 : decode cX12_laysState 10 = .ok (.getfield 9, 3) := by decide +kernel
theorem dX12_laysState_13 : decode cX12_laysState 13 = .ok (.bipush 14, 2) := by decide +kernel
theorem dX12_laysState_15 : decode cX12_laysState 15 = .ok (.iload_n 2, 1) := by decide +kernel
theorem dX12_laysState_16 : decode cX12_laysState 16 = .ok (.iadd, 1) := by decide +kernel
theorem dX12_laysState_17 : decode cX12_laysState 17 = .ok (.aload_n 0, 1) := by decide +kernel
theorem dX12_laysState_18 : decode cX12_laysState 18 = .ok (.getfield 46, 3) := by decide +kernel
theorem dX12_laysState_21 : decode cX12_laysState 21 = .ok (.sipush 729, 3) := by decide +kernel
theorem dX12_laysState_24 : decode cX12_laysState 24 = .ok (.iload_n 1, 1) := by decide +kernel
theorem dX12_laysState_25 : decode cX12_laysState 25 = .ok (.imul, 1) := by decide +kernel
theorem dX12_laysState_26 : decode cX12_laysState 26 = .ok (.iload_n 2, 1) := by decide +kernel
theorem dX12_laysState_27 : decode cX12_laysState 27 = .ok (.iadd, 1) := by decide +kernel
theorem dX12_laysState_28 : decode cX12_laysState 28 = .ok (.iaload, 1) := by decide +kernel
theorem dX12_laysState_29 : decode cX12_laysState 29 = .ok (.iastore, 1) := by decide +kernel
theorem dX12_laysState_30 : decode cX12_laysState 30 = .ok (.iinc 2 1, 3) := by decide +kernel
theorem dX12_laysState_33 : decode cX12_laysState 33 = .ok (.goto (-31), 3) := by decide +kernel
theorem dX12_laysState_36 : decode cX12_laysState 36 = .ok (.aload_n 0, 1) := by decide +kernel
theorem dX12_laysState_37 : decode cX12_laysState 37 = .ok (.getfield 9, 3) := by decide +kernel
theorem dX12_laysState_40 : decode cX12_laysState 40 = .ok (.bipush 7, 2) := by decide +kernel
theorem dX12_laysState_42 : decode cX12_laysState 42 = .ok (.aload_n 0, 1) := by decide +kernel
theorem dX12_laysState_43 : decode cX12_laysState 43 = .ok (.getfield 46, 3) := by decide +kernel
theorem dX12_laysState_46 : decode cX12_laysState 46 = .ok (.sipush 729, 3) := by decide +kernel
theorem dX12_laysState_49 : decode cX12_laysState 49 = .ok (.iload_n 1, 1) := by decide +kernel
theorem dX12_laysState_50 : decode cX12_laysState 50 = .ok (.imul, 1) := by decide +kernel
theorem dX12_laysState_51 : decode cX12_laysState 51 = .ok (.sipush 512, 3) := by decide +kernel
theorem dX12_laysState_54 : decode cX12_laysState 54 = .ok (.iadd, 1) := by decide +kernel
theorem dX12_laysState_55 : decode cX12_laysState 55 = .ok (.iaload, 1) := by decide +kernel
theorem dX12_laysState_56 : decode cX12_laysState 56 = .ok (.iastore, 1) := by decide +kernel
theorem dX12_laysState_57 : decode cX12_laysState 57 = .ok (.iconst 0, 1) := by decide +kernel
theorem dX12_laysState_58 : decode cX12_laysState 58 = .ok (.istore_n 2, 1) := by decide +kernel
theorem dX12_laysState_59 : decode cX12_laysState 59 = .ok (.iload_n 2, 1) := by decide +kernel
theorem dX12_laysState_60 : decode cX12_laysState 60 = .ok (.bipush 9, 2) := by decide +kernel
theorem dX12_laysState_62 : decode cX12_laysState 62 = .ok (.aload_n 0, 1) := by decide +kernel
theorem dX12_laysState_63 : decode cX12_laysState 63 = .ok (.getfield 9, 3) := by decide +kernel
theorem dX12_laysState_66 : decode cX12_laysState 66 = .ok (.bipush 7, 2) := by decide +kernel
theorem dX12_laysState_68 : decode cX12_laysState 68 = .ok (.iaload, 1) := by decide +kernel
theorem dX12_laysState_69 : decode cX12_laysState 69 = .ok (.imul, 1) := by decide +kernel
theorem dX12_laysState_70 : decode cX12_laysState 70 = .ok (.if_icmp .ge 37, 3) := by decide +kernel
theorem dX12_laysState_73 : decode cX12_laysState 73 = .ok (.aload_n 0, 1) := by decide +kernel
theorem dX12_laysState_74 : decode cX12_laysState 74 = .ok (.getfield 9, 3) := by decide +kernel
theorem dX12_laysState_77 : decode cX12_laysState 77 = .ok (.sipush 586, 3) := by decide +kernel
theorem dX12_laysState_80 : decode cX12_laysState 80 = .ok (.iload_n 2, 1) := by decide +kernel
theorem dX12_laysState_81 : decode cX12_laysState 81 = .ok (.iadd, 1) := by decide +kernel
theorem dX12_laysState_82 : decode cX12_laysState 82 = .ok (.aload_n 0, 1) := by decide +kernel
theorem dX12_laysState_83 : decode cX12_laysState 83 = .ok (.getfield 46, 3) := by decide +kernel
theorem dX12_laysState_86 : decode cX12_laysState 86 = .ok (.sipush 729, 3) := by decide +kernel
theorem dX12_laysState_89 : decode cX12_laysState 89 = .ok (.iload_n 1, 1) := by decide +kernel
theorem dX12_laysState_90 : decode cX12_laysState 90 = .ok (.imul, 1) := by decide +kernel
theorem dX12_laysState_91 : decode cX12_laysState 91 = .ok (.sipush 512, 3) := by decide +kernel
theorem dX12_laysState_94 : decode cX12_laysState 94 = .ok (.iadd, 1) := by decide +kernel
theorem dX12_laysState_95 : decode cX12_laysState 95 = .ok (.iconst 1, 1) := by decide +kernel
theorem dX12_laysState_96 : decode cX12_laysState 96 = .ok (.iadd, 1) := by decide +kernel
theorem dX12_laysState_97 : decode cX12_laysState 97 = .ok (.iload_n 2, 1) := by decide +kernel
theorem dX12_laysState_98 : decode cX12_laysState 98 = .ok (.iadd, 1) := by decide +kernel
theorem dX12_laysState_99 : decode cX12_laysState 99 = .ok (.iaload, 1) := by decide +kernel
theorem dX12_laysState_100 : decode cX12_laysState 100 = .ok (.iastore, 1) := by decide +kernel
theorem dX12_laysState_101 : decode cX12_laysState 101 = .ok (.iinc 2 1, 3) := by decide +kernel
theorem dX12_laysState_104 : decode cX12_laysState 104 = .ok (.goto (-45), 3) := by decide +kernel
theorem dX12_laysState_107 : decode cX12_laysState 107 = .ok (.return_, 1) := by decide +kernel
def xX12_laysState_59   : Nat → Int32 → Int32 → j_M → Option (j_M)
  | 0, _, _, _ => none
  | n + 1, l1, l2, M => gd (nI 7) 7460 (oli (M 201 (ix (nI 7))) fun v1 => (if ((nI 9) * v1) ≤ l2 then some M else gd (((((nI 729) * l1) + (nI 512)) + (nI 1)) + l2) 182979 (oli (M 211 (ix (((((nI 729) * l1) + (nI 512)) + (nI 1)) + l2))) fun v2 => gd ((nI 586) + l2) 7460 (oml (mw M 201 (ix ((nI 586) + l2)) v2) fun M3 => xX12_laysState_59  n l1 (l2 + (nI 1)) M3))))
set_option maxRecDepth 20000 in
set_option maxHeartbeats 2000000 in
theorem tX12_laysState_59    : ∀ (n : Nat) (l1 : Int32) (l2 : Int32) (M : j_M), J (ρ := j_M) yX12_laysState cX12_laysState 3 none 0 0 j_ev 59 [(0, .inr (17, 0, 200)), (1, .inl (l1)), (2, .inl (l2))] [] M (xX12_laysState_59  n l1 l2 M) := by
  intro n
  induction n with
  | zero => intros; exact J_none
  | succ n ih =>
    intro l1 l2 M
    rw [xX12_laysState_59.eq_2]
    refine K_iload_n (q := 60) 2 dX12_laysState_59 rfl rfl rfl ?_
    refine K_bipush (q := 62) (v := nI 9) dX12_laysState_60 rfl rfl ?_
    refine K_aload_n (q := 63) 0 dX12_laysState_62 rfl rfl rfl ?_
    refine K_getR (q := 66) (ci := 7) (a2 := 201) 0 dX12_laysState_63 fRX12_9 rfl rfl (by decide) rfl rfl ?_
    refine K_bipush (q := 68) (v := nI 7) dX12_laysState_66 rfl rfl ?_
    refine K_iald (q := 69) dX12_laysState_68 rfl (fun v1 => ?_)
    refine K_imul (q := 70) dX12_laysState_69 rfl ?_
    refine K_icmp_ge (q := 73) (tgt := 107) dX12_laysState_70 rfl ?_ rfl ?_
    · exact J_vret dX12_laysState_107
    · refine K_aload_n (q := 74) 0 dX12_laysState_73 rfl rfl rfl ?_
      refine K_getR (q := 77) (ci := 7) (a2 := 201) 0 dX12_laysState_74 fRX12_9 rfl rfl (by decide) rfl rfl ?_
      refine K_sipush (q := 80) (v := nI 586) dX12_laysState_77 rfl rfl ?_
      refine K_iload_n (q := 81) 2 dX12_laysState_80 rfl rfl rfl ?_
      refine K_iadd (q := 82) dX12_laysState_81 rfl ?_
      refine K_aload_n (q := 83) 0 dX12_laysState_82 rfl rfl rfl ?_
      refine K_getR (q := 86) (ci := 7) (a2 := 211) 24 dX12_laysState_83 fRX12_46 rfl rfl (by decide) rfl rfl ?_
      refine K_sipush (q := 89) (v := nI 729) dX12_laysState_86 rfl rfl ?_
      refine K_iload_n (q := 90) 1 dX12_laysState_89 rfl rfl rfl ?_
      refine K_imul (q := 91) dX12_laysState_90 rfl ?_
      refine K_sipush (q := 94) (v := nI 512) dX12_laysState_91 rfl rfl ?_
      refine K_iadd (q := 95) dX12_laysState_94 rfl ?_
      refine K_iconst (q := 96) (v := nI 1) dX12_laysState_95 rfl rfl ?_
      refine K_iadd (q := 97) dX12_laysState_96 rfl ?_
      refine K_iload_n (q := 98) 2 dX12_laysState_97 rfl rfl rfl ?_
      refine K_iadd (q := 99) dX12_laysState_98 rfl ?_
      refine K_iald (q := 100) dX12_laysState_99 rfl (fun v2 => ?_)
      refine K_iast (q := 101) dX12_laysState_100 rfl (fun M3 => ?_)
      refine K_iinc (q := 104) (v := l2 + (nI 1)) (ll' := [(2, .inl (l2 + (nI 1))), (0, .inr (17, 0, 200)), (1, .inl (l1))]) 2 dX12_laysState_101 rfl rfl (by decide) rfl rfl ?_
      refine J_goto (tgt := 59) dX12_laysState_104 rfl ?_
      exact J_sub [1, 2, 0] (ih l1 (l2 + (nI 1)) M3) rfl
def xX12_laysState_2   : Nat → Int32 → Int32 → j_M → Option (j_M)
  | 0, _, _, _ => none
  | n + 1, l1, l2, M => (if (nI 512) ≤ l2 then gd (((nI 729) * l1) + (nI 512)) 182979 (oli (M 211 (ix (((nI 729) * l1) + (nI 512)))) fun v1 => gd (nI 7) 7460 (oml (mw M 201 (ix (nI 7)) v1) fun M2 => xX12_laysState_59 fu l1 (nI 0) M2)) else gd (((nI 729) * l1) + l2) 182979 (oli (M 211 (ix (((nI 729) * l1) + l2))) fun v3 => gd ((nI 14) + l2) 7460 (oml (mw M 201 (ix ((nI 14) + l2)) v3) fun M4 => xX12_laysState_2  n l1 (l2 + (nI 1)) M4)))
set_option maxRecDepth 20000 in
set_option maxHeartbeats 2000000 in
theorem tX12_laysState_2    : ∀ (n : Nat) (l1 : Int32) (l2 : Int32) (M : j_M), J (ρ := j_M) yX12_laysState cX12_laysState 3 none 0 0 j_ev 2 [(0, .inr (17, 0, 200)), (1, .inl (l1)), (2, .inl (l2))] [] M (xX12_laysState_2  n l1 l2 M) := by
  intro n
  induction n with
  | zero => intros; exact J_none
  | succ n ih =>
    intro l1 l2 M
    rw [xX12_laysState_2.eq_2]
    refine K_iload_n (q := 3) 2 dX12_laysState_2 rfl rfl rfl ?_
    refine K_sipush (q := 6) (v := nI 512) dX12_laysState_3 rfl rfl ?_
    refine K_icmp_ge (q := 9) (tgt := 36) dX12_laysState_6 rfl ?_ rfl ?_
    · refine K_aload_n (q := 37) 0 dX12_laysState_36 rfl rfl rfl ?_
      refine K_getR (q := 40) (ci := 7) (a2 := 201) 0 dX12_laysState_37 fRX12_9 rfl rfl (by decide) rfl rfl ?_
      refine K_bipush (q := 42) (v := nI 7) dX12_laysState_40 rfl rfl ?_
      refine K_aload_n (q := 43) 0 dX12_laysState_42 rfl rfl rfl ?_
      refine K_getR (q := 46) (ci := 7) (a2 := 211) 24 dX12_laysState_43 fRX12_46 rfl rfl (by decide) rfl rfl ?_
      refine K_sipush (q := 49) (v := nI 729) dX12_laysState_46 rfl rfl ?_
      refine K_iload_n (q := 50) 1 dX12_laysState_49 rfl rfl rfl ?_
      refine K_imul (q := 51) dX12_laysState_50 rfl ?_
      refine K_sipush (q := 54) (v := nI 512) dX12_laysState_51 rfl rfl ?_
      refine K_iadd (q := 55) dX12_laysState_54 rfl ?_
      refine K_iald (q := 56) dX12_laysState_55 rfl (fun v1 => ?_)
      refine K_iast (q := 57) dX12_laysState_56 rfl (fun M2 => ?_)
      refine K_iconst (q := 58) (v := nI 0) dX12_laysState_57 rfl rfl ?_
      refine K_istore_n (q := 59) (ll' := [(2, .inl ((nI 0))), (0, .inr (17, 0, 200)), (1, .inl (l1))]) dX12_laysState_58 rfl (by decide) rfl rfl ?_
      exact J_sub [1, 2, 0] (tX12_laysState_59 fu l1 (nI 0) M2) rfl
    · refine K_aload_n (q := 10) 0 dX12_laysState_9 rfl rfl rfl ?_
      refine K_getR (q := 13) (ci := 7) (a2 := 201) 0 dX12_laysState_10 fRX12_9 rfl rfl (by decide) rfl rfl ?_
      refine K_bipush (q := 15) (v := nI 14) dX12_laysState_13 rfl rfl ?_
      refine K_iload_n (q := 16) 2 dX12_laysState_15 rfl rfl rfl ?_
      refine K_iadd (q := 17) dX12_laysState_16 rfl ?_
      refine K_aload_n (q := 18) 0 dX12_laysState_17 rfl rfl rfl ?_
      refine K_getR (q := 21) (ci := 7) (a2 := 211) 24 dX12_laysState_18 fRX12_46 rfl rfl (by decide) rfl rfl ?_
      refine K_sipush (q := 24) (v := nI 729) dX12_laysState_21 rfl rfl ?_
      refine K_iload_n (q := 25) 1 dX12_laysState_24 rfl rfl rfl ?_
      refine K_imul (q := 26) dX12_laysState_25 rfl ?_
      refine K_iload_n (q := 27) 2 dX12_laysState_26 rfl rfl rfl ?_
      refine K_iadd (q := 28) dX12_laysState_27 rfl ?_
      refine K_iald (q := 29) dX12_laysState_28 rfl (fun v3 => ?_)
      refine K_iast (q := 30) dX12_laysState_29 rfl (fun M4 => ?_)
      refine K_iinc (q := 33) (v := l2 + (nI 1)) (ll' := [(2, .inl (l2 + (nI 1))), (0, .inr (17, 0, 200)), (1, .inl (l1))]) 2 dX12_laysState_30 rfl rfl (by decide) rfl rfl ?_
      refine J_goto (tgt := 2) dX12_laysState_33 rfl ?_
      exact J_sub [1, 2, 0] (ih l1 (l2 + (nI 1)) M4) rfl
def xX12_laysState  (l1 : Int32) (M : j_M) : Option (j_M) := xX12_laysState_2 fu l1 (nI 0) M
set_option maxRecDepth 20000 in
set_option maxHeartbeats 2000000 in
theorem tX12_laysState  (l1 : Int32) (M : j_M) : J (ρ := j_M) yX12_laysState cX12_laysState 3 none 0 0 j_ev 0 [(0, .inr (17, 0, 200)), (1, .inl (l1))] [] M (xX12_laysState  l1 M) := by
  unfold xX12_laysState
  refine K_iconst (q := 1) (v := nI 0) dX12_laysState_0 rfl rfl ?_
  refine K_istore_n (q := 2) (ll' := [(2, .inl ((nI 0))), (0, .inr (17, 0, 200)), (1, .inl (l1))]) dX12_laysState_1 rfl (by decide) rfl rfl ?_
  exact J_sub [1, 2, 0] (tX12_laysState_2 fu l1 (nI 0) M) rfl
theorem dX12_walksFrom_0 : decode cX12_walksFrom 0 = .ok (.aload_n 0, 1) := by decide +kernel
theorem dX12_walksFrom_1 : decode cX12_walksFrom 1 = .ok (.iload_n 1, 1) := by decide +kernel
theorem dX12_walksFrom_2 : decode cX12_walksFrom 2 = .ok (.invokevirtual 404, 3) := by decide +kernel
theorem dX12_walksFrom_5 : decode cX12_walksFrom 5 = .ok (.aload_n 0, 1) := by decide +kernel
theorem dX12_walksFrom_6 : decode cX12_walksFrom 6 = .ok (.getfield 9, 3) := by decide +kernel
theorem dX12_walksFrom_9 : decode cX12_walksFrom 9 = .ok (.bipush 7, 2) := by decide +kernel
theorem dX12_walksFrom_11 : decode cX12_walksFrom 11 = .ok (.iaload, 1) := by decide +kernel
theorem dX12_walksFrom_12 : decode cX12_walksFrom 12 = .ok (.istore_n 2, 1) := by decide +kernel
theorem dX12_walksFrom_13 : decode cX12_walksFrom 13 = .ok (.iconst 0, 1) := by decide +kernel
theorem dX12_walksFrom_14 : decode cX12_walksFrom 14 = .ok (.istore_n 3, 1) := by decide +kernel
theorem dX12_walksFrom_15 : decode cX12_walksFrom 15 = .ok (.iload_n 3, 1) := by decide +kernel
theorem dX12_walksFrom_16 : decode cX12_walksFrom 16 = .ok (.iload_n 2, 1) := by decide +kernel
theorem dX12_walksFrom_17 : decode cX12_walksFrom 17 = .ok (.if_icmp .ge 90, 3) := by decide +kernel
theorem dX12_walksFrom_20 : decode cX12_walksFrom 20 = .ok (.aload_n 0, 1) := by decide +kernel
theorem dX12_walksFrom_21 : decode cX12_walksFrom 21 = .ok (.getfield 392, 3) := by decide +kernel
theorem dX12_walksFrom_24 : decode cX12_walksFrom 24 = .ok (.ifCond .ne 83, 3) := by decide +kernel
theorem dX12_walksFrom_27 : decode cX12_walksFrom 27 = .ok (.aload_n 0, 1) := by decide +kernel
theorem dX12_walksFrom_28 : decode cX12_walksFrom 28 = .ok (.iload_n 1, 1) := by decide +kernel
theorem dX12_walksFrom_29 : decode cX12_walksFrom 29 = .ok (.invokevirtual 404, 3) := by decide +kernel
theorem dX12_walksFrom_32 : decode cX12_walksFrom 32 = .ok (.aload_n 0, 1) := by decide +kernel
theorem dX12_walksFrom_33 : decode cX12_walksFrom 33 = .ok (.iload_n 3, 1) := by decide +kernel
theorem dX12_walksFrom_34 : decode cX12_walksFrom 34 = .ok (.invokevirtual 407, 3) := by decide +kernel
theorem dX12_walksFrom_37 : decode cX12_walksFrom 37 = .ok (.ifCond .eq 6, 3) := by decide +kernel
theorem dX12_walksFrom_40 : decode cX12_walksFrom 40 = .ok (.goto 61, 3) := by decide +kernel
theorem dX12_walksFrom_43 : decode cX12_walksFrom 43 = .ok (.aload_n 0, 1) := by decide +kernel
theorem dX12_walksFrom_44 : decode cX12_walksFrom 44 = .ok (.iload_n 3, 1) := by decide +kernel
theorem dX12_walksFrom_45 : decode cX12_walksFrom 45 = .ok (.invokevirtual 178, 3) := by decide +kernel
theorem dX12_walksFrom_48 : decode cX12_walksFrom 48 = .ok (.pop, 1) := by decide +kernel
theorem dX12_walksFrom_49 : decode cX12_walksFrom 49 = .ok (.aload_n 0, 1) := by decide +kernel
theorem dX12_walksFrom_50 : decode cX12_walksFrom 50 = .ok (.aload_n 0, 1) := by decide +kernel
theorem dX12_walksFrom_51 : decode cX12_walksFrom 51 = .ok (.getfield 49, 3) := by decide +kernel
theorem dX12_walksFrom_54 : decode cX12_walksFrom 54 = .ok (.iload_n 1, 1) := by decide +kernel
theorem dX12_walksFrom_55 : decode cX12_walksFrom 55 = .ok (.iaload, 1) := by decide +kernel
theorem dX12_walksFrom_56 : decode cX12_walksFrom 56 = .ok (.iconst 1, 1) := by decide +kernel
theorem dX12_walksFrom_57 : decode cX12_walksFrom 57 = .ok (.iadd, 1) := by decide +kernel
theorem dX12_walksFrom_58 : decode cX12_walksFrom 58 = .ok (.invokevirtual 410, 3) := by decide +kernel
theorem dX12_walksFrom_61 : decode cX12_walksFrom 61 = .ok (.istore 4, 2) := by decide +kernel
theorem dX12_walksFrom_63 : decode cX12_walksFrom 63 = .ok (.iload 4, 2) := by decide +kernel
theorem dX12_walksFrom_65 : decode cX12_walksFrom 65 = .ok (.iconst (-1), 1) := by decide +kernel
theorem dX12_walksFrom_66 : decode cX12_walksFrom 66 = .ok (.if_icmp .ne 4, 3) := by decide +kernel
theorem dX12_walksFrom_69 : decode cX12_walksFrom 69 = .ok (.return_, 1) := by decide +kernel
theorem dX12_walksFrom_70 : decode cX12_walksFrom 70 = .ok (.aload_n 0, 1) := by decide +kernel
theorem dX12_walksFrom_71 : decode cX12_walksFrom 71 = .ok (.getfield 52, 3) := by decide +kernel
theorem dX12_walksFrom_74 : decode cX12_walksFrom 74 = .ok (.aload_n 0, 1) := by decide +kernel
theorem dX12_walksFrom_75 : decode cX12_walksFrom 75 = .ok (.getfield 413, 3) := by decide +kernel
theorem dX12_walksFrom_78 : decode cX12_walksFrom 78 = .ok (.iload_n 1, 1) := by decide +kernel
theorem dX12_walksFrom_79 : decode cX12_walksFrom 79 = .ok (.iastore, 1) := by decide +kernel
theorem dX12_walksFrom_80 : decode cX12_walksFrom 80 = .ok (.aload_n 0, 1) := by decide +kernel
theorem dX12_walksFrom_81 : decode cX12_walksFrom 81 = .ok (.getfield 55, 3) := by decide +kernel
theorem dX12_walksFrom_84 : decode cX12_walksFrom 84 = .ok (.aload_n 0, 1) := by decide +kernel
theorem dX12_walksFrom_85 : decode cX12_walksFrom 85 = .ok (.getfield 413, 3) := by decide +kernel
theorem dX12_walksFrom_88 : decode cX12_walksFrom 88 = .ok (.iload 4, 2) := by decide +kernel
theorem dX12_walksFrom_90 : decode cX12_walksFrom 90 = .ok (.iastore, 1) := by decide +kernel
theorem dX12_walksFrom_91 : decode cX12_walksFrom 91 = .ok (.aload_n 0, 1) := by decide +kernel
theorem dX12_walksFrom_92 : decode cX12_walksFrom 92 = .ok (.dup, 1) := by decide +kernel
theorem dX12_walksFrom_93 : decode cX12_walksFrom 93 = .ok (.getfield 413, 3) := by decide +kernel
theorem dX12_walksFrom_96 : decode cX12_walksFrom 96 = .ok (.iconst 1, 1) := by decide +kernel
theorem dX12_walksFrom_97 : decode cX12_walksFrom 97 = .ok (.iadd, 1) := by decide +kernel
theorem dX12_walksFrom_98 : decode cX12_walksFrom 98 = .ok (.putfield 413, 3) := by decide +kernel
theorem dX12_walksFrom_101 : decode cX12_walksFrom 101 = .ok (.iinc 3 1, 3) := by decide +kernel
theorem dX12_walksFrom_104 : decode cX12_walksFrom 104 = .ok (.goto (-89), 3) := by decide +kernel
theorem dX12_walksFrom_107 : decode cX12_walksFrom 107 = .ok (.return_, 1) := by decide +kernel
def xX12_walksFrom_15   : Nat → Int32 → Int32 → Int32 → j_M → Option (j_M)
  | 0, _, _, _, _ => none
  | n + 1, l1, l2, l3, M => (if l2 ≤ l3 then some M else oli (M 200 31) fun v1 => (if v1 = (0 : Int32) then obv (xX12_laysState l1 M) fun M2 => obi (xX12_isLikeAhead l3 M2) fun v4 M3 => (if v4 = (0 : Int32) then obi (xX12_delivers l3 M3) fun v6 M5 => gd l1 251 (oli (M5 212 (ix l1)) fun v7 => obi (xX12_stateNow (v7 + (nI 1)) M5) fun v9 M8 => (if v9 = (-1 : Int32) then some M8 else oli (M8 200 30) fun v10 => gd v10 6200 (oml (mw M8 213 (ix v10) l1) fun M11 => oli (M11 200 30) fun v12 => gd v12 6200 (oml (mw M11 214 (ix v12) v9) fun M13 => oli (M13 200 30) fun v14 => oml (mw M13 200 30 (v14 + (nI 1))) fun M15 => xX12_walksFrom_15  n l1 l2 (l3 + (nI 1)) M15)))) else xX12_walksFrom_15  n l1 l2 (l3 + (nI 1)) M3) else some M))
set_option maxRecDepth 20000 in
set_option maxHeartbeats 2000000 in
theorem tX12_walksFrom_15    : ∀ (n : Nat) (l1 : Int32) (l2 : Int32) (l3 : Int32) (M : j_M), J (ρ := j_M) yX12_walksFrom cX12_walksFrom 5 none 8 189 j_ev 15 [(0, .inr (17, 0, 200)), (1, .inl (l1)), (2, .inl (l2)), (3, .inl (l3))] [] M (xX12_walksFrom_15  n l1 l2 l3 M) := by
  intro n
  induction n with
  | zero => intros; exact J_none
  | succ n ih =>
    intro l1 l2 l3 M
    rw [xX12_walksFrom_15.eq_2]
    refine K_iload_n (q := 16) 3 dX12_walksFrom_15 rfl rfl rfl ?_
    refine K_iload_n (q := 17) 2 dX12_walksFrom_16 rfl rfl rfl ?_
    refine K_icmp_ge (q := 20) (tgt := 107) dX12_walksFrom_17 rfl ?_ rfl ?_
    · exact J_vret dX12_walksFrom_107
    · refine K_aload_n (q := 21) 0 dX12_walksFrom_20 rfl rfl rfl ?_
      refine K_getI (q := 24) (ci := 7) 31 dX12_walksFrom_21 fRX12_392 rfl rfl rfl (fun v1 => ?_)
      refine K_if_ne (q := 27) (tgt := 107) dX12_walksFrom_24 rfl ?_ rfl ?_
      · exact J_vret dX12_walksFrom_107
      · refine K_aload_n (q := 28) 0 dX12_walksFrom_27 rfl rfl rfl ?_
        refine K_iload_n (q := 29) 1 dX12_walksFrom_28 rfl rfl rfl ?_
        refine K_cvv (q := 32) [.inl (l1)] dX12_walksFrom_29 cb_X12_laysState cvRX12_404 rc_7 (show (17 : Nat) ≠ 0 by decide) rfl (Nat.le_of_ble_eq_true rfl) ⟨by decide, by decide⟩ (Nat.le_of_ble_eq_true rfl) rfl (tX12_laysState l1 M) rfl (fun M2 => ?_)
        refine K_aload_n (q := 33) 0 dX12_walksFrom_32 rfl rfl rfl ?_
        refine K_iload_n (q := 34) 3 dX12_walksFrom_33 rfl rfl rfl ?_
        refine K_cvi (q := 37) [.inl (l3)] dX12_walksFrom_34 cb_X12_isLikeAhead cvRX12_407 rc_7 (show (17 : Nat) ≠ 0 by decide) rfl (Nat.le_of_ble_eq_true rfl) ⟨by decide, by decide⟩ (Nat.le_of_ble_eq_true rfl) rfl (tX12_isLikeAhead l3 M2) rfl (fun v4 M3 => ?_)
        refine K_if_eq (q := 40) (tgt := 43) dX12_walksFrom_37 rfl ?_ rfl ?_
        · refine K_aload_n (q := 44) 0 dX12_walksFrom_43 rfl rfl rfl ?_
          refine K_iload_n (q := 45) 3 dX12_walksFrom_44 rfl rfl rfl ?_
          refine K_cvi (q := 48) [.inl (l3)] dX12_walksFrom_45 cb_X12_delivers cvRX12_178 rc_7 (show (17 : Nat) ≠ 0 by decide) rfl (Nat.le_of_ble_eq_true rfl) ⟨by decide, by decide⟩ (Nat.le_of_ble_eq_true rfl) rfl (tX12_delivers l3 M3) rfl (fun v6 M5 => ?_)
          refine K_pop (q := 49) dX12_walksFrom_48 rfl ?_
          refine K_aload_n (q := 50) 0 dX12_walksFrom_49 rfl rfl rfl ?_
          refine K_aload_n (q := 51) 0 dX12_walksFrom_50 rfl rfl rfl ?_
          refine K_getR (q := 54) (ci := 7) (a2 := 212) 25 dX12_walksFrom_51 fRX12_49 rfl rfl (by decide) rfl rfl ?_
          refine K_iload_n (q := 55) 1 dX12_walksFrom_54 rfl rfl rfl ?_
          refine K_iald (q := 56) dX12_walksFrom_55 rfl (fun v7 => ?_)
          refine K_iconst (q := 57) (v := nI 1) dX12_walksFrom_56 rfl rfl ?_
          refine K_iadd (q := 58) dX12_walksFrom_57 rfl ?_
          refine K_cvi (q := 61) [.inl (v7 + (nI 1))] dX12_walksFrom_58 cb_X12_stateNow cvRX12_410 rc_7 (show (17 : Nat) ≠ 0 by decide) rfl (Nat.le_of_ble_eq_true rfl) ⟨by decide, by decide⟩ (Nat.le_of_ble_eq_true rfl) rfl (tX12_stateNow (v7 + (nI 1)) M5) rfl (fun v9 M8 => ?_)
          refine K_istore (q := 63) (ll' := [(4, .inl (v9)), (0, .inr (17, 0, 200)), (1, .inl (l1)), (2, .inl (l2)), (3, .inl (l3))]) dX12_walksFrom_61 (by decide) rfl rfl ?_
          refine K_iload (q := 65) 0 dX12_walksFrom_63 rfl rfl ?_
          refine K_iconst (q := 66) (v := -1) dX12_walksFrom_65 rfl rfl ?_
          refine K_icmp_ne (q := 69) (tgt := 70) dX12_walksFrom_66 rfl ?_ rfl ?_
          · refine K_aload_n (q := 71) 1 dX12_walksFrom_70 rfl rfl rfl ?_
            refine K_getR (q := 74) (ci := 7) (a2 := 213) 26 dX12_walksFrom_71 fRX12_52 rfl rfl (by decide) rfl rfl ?_
            refine K_aload_n (q := 75) 1 dX12_walksFrom_74 rfl rfl rfl ?_
            refine K_getI (q := 78) (ci := 7) 30 dX12_walksFrom_75 fRX12_413 rfl rfl rfl (fun v10 => ?_)
            refine K_iload_n (q := 79) 2 dX12_walksFrom_78 rfl rfl rfl ?_
            refine K_iast (q := 80) dX12_walksFrom_79 rfl (fun M11 => ?_)
            refine K_aload_n (q := 81) 1 dX12_walksFrom_80 rfl rfl rfl ?_
            refine K_getR (q := 84) (ci := 7) (a2 := 214) 27 dX12_walksFrom_81 fRX12_55 rfl rfl (by decide) rfl rfl ?_
            refine K_aload_n (q := 85) 1 dX12_walksFrom_84 rfl rfl rfl ?_
            refine K_getI (q := 88) (ci := 7) 30 dX12_walksFrom_85 fRX12_413 rfl rfl rfl (fun v12 => ?_)
            refine K_iload (q := 90) 0 dX12_walksFrom_88 rfl rfl ?_
            refine K_iast (q := 91) dX12_walksFrom_90 rfl (fun M13 => ?_)
            refine K_aload_n (q := 92) 1 dX12_walksFrom_91 rfl rfl rfl ?_
            refine K_dup (q := 93) dX12_walksFrom_92 rfl ?_
            refine K_getI (q := 96) (ci := 7) 30 dX12_walksFrom_93 fRX12_413 rfl rfl rfl (fun v14 => ?_)
            refine K_iconst (q := 97) (v := nI 1) dX12_walksFrom_96 rfl rfl ?_
            refine K_iadd (q := 98) dX12_walksFrom_97 rfl ?_
            refine K_putI (q := 101) (ci := 7) 30 dX12_walksFrom_98 fRX12_413 fp_7_30 rfl rfl (by decide) rfl (fun M15 => ?_)
            refine K_iinc (q := 104) (v := l3 + (nI 1)) (ll' := [(3, .inl (l3 + (nI 1))), (4, .inl (v9)), (0, .inr (17, 0, 200)), (1, .inl (l1)), (2, .inl (l2))]) 4 dX12_walksFrom_101 rfl rfl (by decide) rfl rfl ?_
            refine J_goto (tgt := 15) dX12_walksFrom_104 rfl ?_
            exact J_sub [2, 3, 4, 0] (ih l1 l2 (l3 + (nI 1)) M15) rfl
          · exact J_vret dX12_walksFrom_69
        · refine J_goto (tgt := 101) dX12_walksFrom_40 rfl ?_
          refine K_iinc (q := 104) (v := l3 + (nI 1)) (ll' := [(3, .inl (l3 + (nI 1))), (0, .inr (17, 0, 200)), (1, .inl (l1)), (2, .inl (l2))]) 3 dX12_walksFrom_101 rfl rfl (by decide) rfl rfl ?_
          refine J_goto (tgt := 15) dX12_walksFrom_104 rfl ?_
          exact J_sub [1, 2, 3, 0] (ih l1 l2 (l3 + (nI 1)) M3) rfl
def xX12_walksFrom  (l1 : Int32) (M : j_M) : Option (j_M) := obv (xX12_laysState l1 M) fun M1 => gd (nI 7) 7460 (oli (M1 201 (ix (nI 7))) fun v2 => xX12_walksFrom_15 fu l1 v2 (nI 0) M1)
set_option maxRecDepth 20000 in
set_option maxHeartbeats 2000000 in
theorem tX12_walksFrom  (l1 : Int32) (M : j_M) : J (ρ := j_M) yX12_walksFrom cX12_walksFrom 5 none 8 189 j_ev 0 [(0, .inr (17, 0, 200)), (1, .inl (l1))] [] M (xX12_walksFrom  l1 M) := by
  unfold xX12_walksFrom
  refine K_aload_n (q := 1) 0 dX12_walksFrom_0 rfl rfl rfl ?_
  refine K_iload_n (q := 2) 1 dX12_walksFrom_1 rfl rfl rfl ?_
  refine K_cvv (q := 5) [.inl (l1)] dX12_walksFrom_2 cb_X12_laysState cvRX12_404 rc_7 (show (17 : Nat) ≠ 0 by decide) rfl (Nat.le_of_ble_eq_true rfl) ⟨by decide, by decide⟩ (Nat.le_of_ble_eq_true rfl) rfl (tX12_laysState l1 M) rfl (fun M1 => ?_)
  refine K_aload_n (q := 6) 0 dX12_walksFrom_5 rfl rfl rfl ?_
  refine K_getR (q := 9) (ci := 7) (a2 := 201) 0 dX12_walksFrom_6 fRX12_9 rfl rfl (by decide) rfl rfl ?_
  refine K_bipush (q := 11) (v := nI 7) dX12_walksFrom_9 rfl rfl ?_
  refine K_iald (q := 12) dX12_walksFrom_11 rfl (fun v2 => ?_)
  refine K_istore_n (q := 13) (ll' := [(2, .inl (v2)), (0, .inr (17, 0, 200)), (1, .inl (l1))]) dX12_walksFrom_12 rfl (by decide) rfl rfl ?_
  refine K_iconst (q := 14) (v := nI 0) dX12_walksFrom_13 rfl rfl ?_
  refine K_istore_n (q := 15) (ll' := [(3, .inl ((nI 0))), (2, .inl (v2)), (0, .inr (17, 0, 200)), (1, .inl (l1))]) dX12_walksFrom_14 rfl (by decide) rfl rfl ?_
  exact J_sub [2, 3, 1, 0] (tX12_walksFrom_15 fu l1 v2 (nI 0) M1) rfl
theorem dX12_walk_0 : decode cX12_walk 0 = .ok (.iload_n 1, 1) := by decide +kernel
theorem dX12_walk_1 : decode cX12_walk 1 = .ok (.iconst 0, 1) := by decide +kernel
theorem dX12_walk_2 : decode cX12_walk 2 = .ok (.iconst 4, 1) := by decide +kernel
theorem dX12_walk_3 : decode cX12_walk 3 = .ok (.invokestatic 65, 3) := by decide +kernel
theorem dX12_walk_6 : decode cX12_walk 6 = .ok (.ifCond .ne 5, 3) := by decide +kernel
theorem dX12_walk_9 : decode cX12_walk 9 = .ok (.iconst (-1), 1) := by decide +kernel
theorem dX12_walk_10 : decode cX12_walk 10 = .ok (.ireturn, 1) := by decide +kernel
theorem dX12_walk_11 : decode cX12_walk 11 = .ok (.aload_n 0, 1) := by decide +kernel
theorem dX12_walk_12 : decode cX12_walk 12 = .ok (.invokevirtual 377, 3) := by decide +kernel
theorem dX12_walk_15 : decode cX12_walk 15 = .ok (.aload_n 0, 1) := by decide +kernel
theorem dX12_walk_16 : decode cX12_walk 16 = .ok (.iconst 0, 1) := by decide +kernel
theorem dX12_walk_17 : decode cX12_walk 17 = .ok (.putfield 398, 3) := by decide +kernel
theorem dX12_walk_20 : decode cX12_walk 20 = .ok (.aload_n 0, 1) := by decide +kernel
theorem dX12_walk_21 : decode cX12_walk 21 = .ok (.iconst 0, 1) := by decide +kernel
theorem dX12_walk_22 : decode cX12_walk 22 = .ok (.putfield 413, 3) := by decide +kernel
theorem dX12_walk_25 : decode cX12_walk 25 = .ok (.aload_n 0, 1) := by decide +kernel
theorem dX12_walk_26 : decode cX12_walk 26 = .ok (.iconst 0, 1) := by decide +kernel
theorem dX12_walk_27 : decode cX12_walk 27 = .ok (.putfield 392, 3) := by decide +kernel
theorem dX12_walk_30 : decode cX12_walk 30 = .ok (.aload_n 0, 1) := by decide +kernel
theorem dX12_walk_31 : decode cX12_walk 31 = .ok (.iconst 0, 1) := by decide +kernel
theorem dX12_walk_32 : decode cX12_walk 32 = .ok (.invokevirtual 410, 3) := by decide +kernel
theorem dX12_walk_35 : decode cX12_walk 35 = .ok (.pop, 1) := by decide +kernel
theorem dX12_walk_36 : decode cX12_walk 36 = .ok (.iconst 0, 1) := by decide +kernel
theorem dX12_walk_37 : decode cX12_walk 37 = .ok (.istore_n 2, 1) := by decide +kernel
theorem dX12_walk_38 : decode cX12_walk 38 = .ok (.iload_n 2, 1) := by decide +kernel
theorem dX12_walk_39 : decode cX12_walk 39 = .ok (.aload_n 0, 1) := by decide +kernel
theorem dX12_walk_40 : decode cX12_walk 40 = .ok (.getfield 398, 3) := by decide +kernel
theorem dX12_walk_43 : decode cX12_walk 43 = .ok (.if_icmp .ge 21, 3) := by decide +kernel
theorem dX12_walk_46 : decode cX12_walk 46 = .ok (.aload_n 0, 1) := by decide +kernel
theorem dX12_walk_47 : decode cX12_walk 47 = .ok (.getfield 392, 3) := by decide +kernel
theorem dX12_walk_50 : decode cX12_walk 50 = .ok (.ifCond .ne 14, 3) := by decide +kernel
theorem dX12_walk_53 : decode cX12_walk 53 = .ok (.aload_n 0, 1) := by decide +kernel
theorem dX12_walk_54 : decode cX12_walk 54 = .ok (.iload_n 2, 1) := by decide +kernel
theorem dX12_walk_55 : decode cX12_walk 55 = .ok (.invokevirtual 425, 3) := by decide +kernel
theorem dX12_walk_58 : decode cX12_walk 58 = .ok (.iinc 2 1, 3) := by decide +kernel
theorem dX12_walk_61 : decode cX12_walk 61 = .ok (.goto (-23), 3) := by decide +kernel
theorem dX12_walk_64 : decode cX12_walk 64 = .ok (.aload_n 0, 1) := by decide +kernel
theorem dX12_walk_65 : decode cX12_walk 65 = .ok (.getfield 392, 3) := by decide +kernel
theorem dX12_walk_68 : decode cX12_walk 68 = .ok (.ifCond .eq 7, 3) := by decide +kernel
theorem dX12_walk_71 : decode cX12_walk 71 = .ok (.iconst (-1), 1) := by decide +kernel
theorem dX12_walk_72 : decode cX12_walk 72 = .ok (.goto 8, 3) := by decide +kernel
theorem dX12_walk_75 : decode cX12_walk 75 = .ok (.aload_n 0, 1) := by decide +kernel
theorem dX12_walk_76 : decode cX12_walk 76 = .ok (.iload_n 1, 1) := by decide +kernel
theorem dX12_walk_77 : decode cX12_walk 77 = .ok (.invokevirtual 428, 3) := by decide +kernel
theorem dX12_walk_80 : decode cX12_walk 80 = .ok (.istore_n 2, 1) := by decide +kernel
theorem dX12_walk_81 : decode cX12_walk 81 = .ok (.aload_n 0, 1) := by decide +kernel
theorem dX12_walk_82 : decode cX12_walk 82 = .ok (.invokevirtual 380, 3) := by decide +kernel
theorem dX12_walk_85 : decode cX12_walk 85 = .ok (.iload_n 2, 1) := by decide +kernel
theorem dX12_walk_86 : decode cX12_walk 86 = .ok (.ireturn, 1) := by decide +kernel
def xX12_walk_80   (s0 : Int32) (M : j_M) : Option (Int32 × j_M) := obv (xX12_putsBack M) fun M1 => some (s0, M1)
set_option maxRecDepth 20000 in
set_option maxHeartbeats 2000000 in
theorem tX12_walk_80    (s0 : Int32) (M : j_M) : J (ρ := Int32 × j_M) yX12_walk cX12_walk 3 (some .int) 9 213 j_ei 80 [(0, .inr (17, 0, 200))] [.inl (s0)] M (xX12_walk_80  s0 M) := by
  unfold xX12_walk_80
  refine K_istore_n (q := 81) (ll' := [(2, .inl (s0)), (0, .inr (17, 0, 200))]) dX12_walk_80 rfl (by decide) rfl rfl ?_
  refine K_aload_n (q := 82) 1 dX12_walk_81 rfl rfl rfl ?_
  refine K_cvv (q := 85) [] dX12_walk_82 cb_X12_putsBack cvRX12_380 rc_7 (show (17 : Nat) ≠ 0 by decide) rfl (Nat.le_of_ble_eq_true rfl) ⟨by decide, by decide⟩ (Nat.le_of_ble_eq_true rfl) rfl (tX12_putsBack M) rfl (fun M1 => ?_)
  refine K_iload_n (q := 86) 0 dX12_walk_85 rfl rfl rfl ?_
  exact J_iret dX12_walk_86
def xX12_walk_64   (l1 : Int32) (M : j_M) : Option (Int32 × j_M) := oli (M 200 31) fun v1 => (if v1 = (0 : Int32) then obi (xX12_tells l1 M) fun v3 M2 => xX12_walk_80  v3 M2 else xX12_walk_80  (-1 : Int32) M)
set_option maxRecDepth 20000 in
set_option maxHeartbeats 2000000 in
theorem tX12_walk_64    (l1 : Int32) (M : j_M) : J (ρ := Int32 × j_M) yX12_walk cX12_walk 3 (some .int) 9 213 j_ei 64 [(0, .inr (17, 0, 200)), (1, .inl (l1))] [] M (xX12_walk_64  l1 M) := by
  unfold xX12_walk_64
  refine K_aload_n (q := 65) 0 dX12_walk_64 rfl rfl rfl ?_
  refine K_getI (q := 68) (ci := 7) 31 dX12_walk_65 fRX12_392 rfl rfl rfl (fun v1 => ?_)
  refine K_if_eq (q := 71) (tgt := 75) dX12_walk_68 rfl ?_ rfl ?_
  · refine K_aload_n (q := 76) 0 dX12_walk_75 rfl rfl rfl ?_
    refine K_iload_n (q := 77) 1 dX12_walk_76 rfl rfl rfl ?_
    refine K_cvi (q := 80) [.inl (l1)] dX12_walk_77 cb_X12_tells cvRX12_428 rc_7 (show (17 : Nat) ≠ 0 by decide) rfl (Nat.le_of_ble_eq_true rfl) ⟨by decide, by decide⟩ (Nat.le_of_ble_eq_true rfl) rfl (tX12_tells l1 M) rfl (fun v3 M2 => ?_)
    exact J_sub [0] (tX12_walk_80  v3 M2) rfl
  · refine K_iconst (q := 72) (v := -1) dX12_walk_71 rfl rfl ?_
    refine J_goto (tgt := 80) dX12_walk_72 rfl ?_
    exact J_sub [0] (tX12_walk_80  (-1 : Int32) M) rfl
def xX12_walk_38   : Nat → Int32 → Int32 → j_M → Option (Int32 × j_M)
  | 0, _, _, _ => none
  | n + 1, l1, l2, M => oli (M 200 29) fun v1 => (if v1 ≤ l2 then xX12_walk_64  l1 M else oli (M 200 31) fun v2 => (if v2 = (0 : Int32) then obv (xX12_walksFrom l2 M) fun M3 => xX12_walk_38  n l1 (l2 + (nI 1)) M3 else xX12_walk_64  l1 M))
set_option maxRecDepth 20000 in
set_option maxHeartbeats 2000000 in
theorem tX12_walk_38    : ∀ (n : Nat) (l1 : Int32) (l2 : Int32) (M : j_M), J (ρ := Int32 × j_M) yX12_walk cX12_walk 3 (some .int) 9 213 j_ei 38 [(0, .inr (17, 0, 200)), (1, .inl (l1)), (2, .inl (l2))] [] M (xX12_walk_38  n l1 l2 M) := by
  intro n
  induction n with
  | zero => intros; exact J_none
  | succ n ih =>
    intro l1 l2 M
    rw [xX12_walk_38.eq_2]
    refine K_iload_n (q := 39) 2 dX12_walk_38 rfl rfl rfl ?_
    refine K_aload_n (q := 40) 0 dX12_walk_39 rfl rfl rfl ?_
    refine K_getI (q := 43) (ci := 7) 29 dX12_walk_40 fRX12_398 rfl rfl rfl (fun v1 => ?_)
    refine K_icmp_ge (q := 46) (tgt := 64) dX12_walk_43 rfl ?_ rfl ?_
    · exact J_sub [0, 1] (tX12_walk_64  l1 M) rfl
    · refine K_aload_n (q := 47) 0 dX12_walk_46 rfl rfl rfl ?_
      refine K_getI (q := 50) (ci := 7) 31 dX12_walk_47 fRX12_392 rfl rfl rfl (fun v2 => ?_)
      refine K_if_ne (q := 53) (tgt := 64) dX12_walk_50 rfl ?_ rfl ?_
      · exact J_sub [0, 1] (tX12_walk_64  l1 M) rfl
      · refine K_aload_n (q := 54) 0 dX12_walk_53 rfl rfl rfl ?_
        refine K_iload_n (q := 55) 2 dX12_walk_54 rfl rfl rfl ?_
        refine K_cvv (q := 58) [.inl (l2)] dX12_walk_55 cb_X12_walksFrom cvRX12_425 rc_7 (show (17 : Nat) ≠ 0 by decide) rfl (Nat.le_of_ble_eq_true rfl) ⟨by decide, by decide⟩ (Nat.le_of_ble_eq_true rfl) rfl (tX12_walksFrom l2 M) rfl (fun M3 => ?_)
        refine K_iinc (q := 61) (v := l2 + (nI 1)) (ll' := [(2, .inl (l2 + (nI 1))), (0, .inr (17, 0, 200)), (1, .inl (l1))]) 2 dX12_walk_58 rfl rfl (by decide) rfl rfl ?_
        refine J_goto (tgt := 38) dX12_walk_61 rfl ?_
        exact J_sub [1, 2, 0] (ih l1 (l2 + (nI 1)) M3) rfl
def xX12_walk  (l1 : Int32) (M : j_M) : Option (Int32 × j_M) := obi (xX12_isIn l1 (nI 0) (nI 4) M) fun v2 M1 => (if v2 = (0 : Int32) then some ((-1 : Int32), M1) else obv (xX12_keeps M1) fun M3 => oml (mw M3 200 29 (nI 0)) fun M4 => oml (mw M4 200 30 (nI 0)) fun M5 => gz (nI 0) (oml (mw M5 200 31 (nI 0)) fun M6 => obi (xX12_stateNow (nI 0) M6) fun v8 M7 => xX12_walk_38 fu l1 (nI 0) M7))
set_option maxRecDepth 20000 in
set_option maxHeartbeats 2000000 in
theorem tX12_walk  (l1 : Int32) (M : j_M) : J (ρ := Int32 × j_M) yX12_walk cX12_walk 3 (some .int) 9 213 j_ei 0 [(0, .inr (17, 0, 200)), (1, .inl (l1))] [] M (xX12_walk  l1 M) := by
  unfold xX12_walk
  refine K_iload_n (q := 1) 1 dX12_walk_0 rfl rfl rfl ?_
  refine K_iconst (q := 2) (v := nI 0) dX12_walk_1 rfl rfl ?_
  refine K_iconst (q := 3) (v := nI 4) dX12_walk_2 rfl rfl ?_
  refine K_csi (q := 6) [.inl (l1), .inl ((nI 0)), .inl ((nI 4))] dX12_walk_3 cb_X12_isIn cvRX12_65 rfl (Nat.le_of_ble_eq_true rfl) ⟨by decide, by decide⟩ (Nat.le_of_ble_eq_true rfl) rfl (tX12_isIn l1 (nI 0) (nI 4) M) rfl (fun v2 M1 => ?_)
  refine K_if_ne (q := 9) (tgt := 11) dX12_walk_6 rfl ?_ rfl ?_
  · refine K_aload_n (q := 12) 0 dX12_walk_11 rfl rfl rfl ?_
    refine K_cvv (q := 15) [] dX12_walk_12 cb_X12_keeps cvRX12_377 rc_7 (show (17 : Nat) ≠ 0 by decide) rfl (Nat.le_of_ble_eq_true rfl) ⟨by decide, by decide⟩ (Nat.le_of_ble_eq_true rfl) rfl (tX12_keeps M1) rfl (fun M3 => ?_)
    refine K_aload_n (q := 16) 0 dX12_walk_15 rfl rfl rfl ?_
    refine K_iconst (q := 17) (v := nI 0) dX12_walk_16 rfl rfl ?_
    refine K_putI (q := 20) (ci := 7) 29 dX12_walk_17 fRX12_398 fp_7_29 rfl rfl (by decide) rfl (fun M4 => ?_)
    refine K_aload_n (q := 21) 0 dX12_walk_20 rfl rfl rfl ?_
    refine K_iconst (q := 22) (v := nI 0) dX12_walk_21 rfl rfl ?_
    refine K_putI (q := 25) (ci := 7) 30 dX12_walk_22 fRX12_413 fp_7_30 rfl rfl (by decide) rfl (fun M5 => ?_)
    refine K_aload_n (q := 26) 0 dX12_walk_25 rfl rfl rfl ?_
    refine K_iconst (q := 27) (v := nI 0) dX12_walk_26 rfl rfl ?_
    refine K_putZ (q := 30) (ci := 7) 31 dX12_walk_27 fRX12_392 fp_7_31 rfl rfl (by decide) rfl (fun M6 => ?_)
    refine K_aload_n (q := 31) 0 dX12_walk_30 rfl rfl rfl ?_
    refine K_iconst (q := 32) (v := nI 0) dX12_walk_31 rfl rfl ?_
    refine K_cvi (q := 35) [.inl ((nI 0))] dX12_walk_32 cb_X12_stateNow cvRX12_410 rc_7 (show (17 : Nat) ≠ 0 by decide) rfl (Nat.le_of_ble_eq_true rfl) ⟨by decide, by decide⟩ (Nat.le_of_ble_eq_true rfl) rfl (tX12_stateNow (nI 0) M6) rfl (fun v8 M7 => ?_)
    refine K_pop (q := 36) dX12_walk_35 rfl ?_
    refine K_iconst (q := 37) (v := nI 0) dX12_walk_36 rfl rfl ?_
    refine K_istore_n (q := 38) (ll' := [(2, .inl ((nI 0))), (0, .inr (17, 0, 200)), (1, .inl (l1))]) dX12_walk_37 rfl (by decide) rfl rfl ?_
    exact J_sub [1, 2, 0] (tX12_walk_38 fu l1 (nI 0) M7) rfl
  · refine K_iconst (q := 10) (v := -1) dX12_walk_9 rfl rfl ?_
    exact J_iret dX12_walk_10
theorem dX12_havers_0 : decode cX12_havers 0 = .ok (.iconst 0, 1) := by decide +kernel
theorem dX12_havers_1 : decode cX12_havers 1 = .ok (.istore_n 2, 1) := by decide +kernel
theorem dX12_havers_2 : decode cX12_havers 2 = .ok (.iconst 0, 1) := by decide +kernel
theorem dX12_havers_3 : decode cX12_havers 3 = .ok (.istore_n 3, 1) := by decide +kernel
theorem dX12_havers_4 : decode cX12_havers 4 = .ok (.iload_n 3, 1) := by decide +kernel
theorem dX12_havers_5 : decode cX12_havers 5 = .ok (.bipush 6, 2) := by decide +kernel
theorem dX12_havers_7 : decode cX12_havers 7 = .ok (.if_icmp .gt 33, 3) := by decide +kernel
theorem dX12_havers_10 : decode cX12_havers 10 = .ok (.iload_n 2, 1) := by decide +kernel
theorem dX12_havers_11 : decode cX12_havers 11 = .ok (.aload_n 0, 1) := by decide +kernel
theorem dX12_havers_12 : decode cX12_havers 12 = .ok (.getfield 9, 3) := by decide +kernel
theorem dX12_havers_15 : decode cX12_havers 15 = .ok (.bipush 14, 2) := by decide +kernel
theorem dX12_havers_17 : decode cX12_havers 17 = .ok (.iload_n 3, 1) := by decide +kernel
theorem dX12_havers_18 : decode cX12_havers 18 = .ok (.iload_n 1, 1) := by decide +kernel
theorem dX12_havers_19 : decode cX12_havers 19 = .ok (.invokestatic 61, 3) := by decide +kernel
theorem dX12_havers_22 : decode cX12_havers 22 = .ok (.iadd, 1) := by decide +kernel
theorem dX12_havers_23 : decode cX12_havers 23 = .ok (.iaload, 1) := by decide +kernel
theorem dX12_havers_24 : decode cX12_havers 24 = .ok (.ifCond .le 7, 3) := by decide +kernel
theorem dX12_havers_27 : decode cX12_havers 27 = .ok (.iconst 1, 1) := by decide +kernel
theorem dX12_havers_28 : decode cX12_havers 28 = .ok (.goto 4, 3) := by decide +kernel
theorem dX12_havers_31 : decode cX12_havers 31 = .ok (.iconst 0, 1) := by decide +kernel
theorem dX12_havers_32 : decode cX12_havers 32 = .ok (.iadd, 1) := by decide +kernel
theorem dX12_havers_33 : decode cX12_havers 33 = .ok (.istore_n 2, 1) := by decide +kernel
theorem dX12_havers_34 : decode cX12_havers 34 = .ok (.iinc 3 1, 3) := by decide +kernel
theorem dX12_havers_37 : decode cX12_havers 37 = .ok (.goto (-33), 3) := by decide +kernel
theorem dX12_havers_40 : decode cX12_havers 40 = .ok (.iload_n 2, 1) := by decide +kernel
theorem dX12_havers_41 : decode cX12_havers 41 = .ok (.ireturn, 1) := by decide +kernel
def xX12_havers_32 (k4 : Int32 → Int32 → Int32 → j_M → Option (Int32 × j_M))  (l1 : Int32) (l3 : Int32) (s1 : Int32) (s0 : Int32) (M : j_M) : Option (Int32 × j_M) := k4 l1 (s1 + s0) (l3 + (nI 1)) M
set_option maxRecDepth 20000 in
set_option maxHeartbeats 2000000 in
theorem tX12_havers_32 (k4 : Int32 → Int32 → Int32 → j_M → Option (Int32 × j_M))  (hk4 : ∀ (l1 : Int32) (l2 : Int32) (l3 : Int32) (M : j_M), J (ρ := Int32 × j_M) yX12_havers cX12_havers 4 (some .int) 1 21 j_ei 4 [(0, .inr (17, 0, 200)), (1, .inl (l1)), (2, .inl (l2)), (3, .inl (l3))] [] M (k4 l1 l2 l3 M)) (l1 : Int32) (l3 : Int32) (s1 : Int32) (s0 : Int32) (M : j_M) : J (ρ := Int32 × j_M) yX12_havers cX12_havers 4 (some .int) 1 21 j_ei 32 [(0, .inr (17, 0, 200)), (1, .inl (l1)), (3, .inl (l3))] [.inl (s0), .inl (s1)] M (xX12_havers_32 k4 l1 l3 s1 s0 M) := by
  unfold xX12_havers_32
  refine K_iadd (q := 33) dX12_havers_32 rfl ?_
  refine K_istore_n (q := 34) (ll' := [(2, .inl (s1 + s0)), (0, .inr (17, 0, 200)), (1, .inl (l1)), (3, .inl (l3))]) dX12_havers_33 rfl (by decide) rfl rfl ?_
  refine K_iinc (q := 37) (v := l3 + (nI 1)) (ll' := [(3, .inl (l3 + (nI 1))), (2, .inl (s1 + s0)), (0, .inr (17, 0, 200)), (1, .inl (l1))]) 3 dX12_havers_34 rfl rfl (by decide) rfl rfl ?_
  refine J_goto (tgt := 4) dX12_havers_37 rfl ?_
  exact J_sub [2, 3, 1, 0] (hk4 l1 (s1 + s0) (l3 + (nI 1)) M) rfl
def xX12_havers_4   : Nat → Int32 → Int32 → Int32 → j_M → Option (Int32 × j_M)
  | 0, _, _, _, _ => none
  | n + 1, l1, l2, l3, M => (if (nI 6) < l3 then some (l2, M) else obi (xX12_place l3 l1 M) fun v2 M1 => gd ((nI 14) + v2) 7460 (oli (M1 201 (ix ((nI 14) + v2))) fun v3 => (if v3 ≤ (0 : Int32) then xX12_havers_32 (xX12_havers_4  n) l1 l3 l2 (nI 0) M1 else xX12_havers_32 (xX12_havers_4  n) l1 l3 l2 (nI 1) M1)))
set_option maxRecDepth 20000 in
set_option maxHeartbeats 2000000 in
theorem tX12_havers_4    : ∀ (n : Nat) (l1 : Int32) (l2 : Int32) (l3 : Int32) (M : j_M), J (ρ := Int32 × j_M) yX12_havers cX12_havers 4 (some .int) 1 21 j_ei 4 [(0, .inr (17, 0, 200)), (1, .inl (l1)), (2, .inl (l2)), (3, .inl (l3))] [] M (xX12_havers_4  n l1 l2 l3 M) := by
  intro n
  induction n with
  | zero => intros; exact J_none
  | succ n ih =>
    intro l1 l2 l3 M
    rw [xX12_havers_4.eq_2]
    refine K_iload_n (q := 5) 3 dX12_havers_4 rfl rfl rfl ?_
    refine K_bipush (q := 7) (v := nI 6) dX12_havers_5 rfl rfl ?_
    refine K_icmp_gt (q := 10) (tgt := 40) dX12_havers_7 rfl ?_ rfl ?_
    · refine K_iload_n (q := 41) 2 dX12_havers_40 rfl rfl rfl ?_
      exact J_iret dX12_havers_41
    · refine K_iload_n (q := 11) 2 dX12_havers_10 rfl rfl rfl ?_
      refine K_aload_n (q := 12) 0 dX12_havers_11 rfl rfl rfl ?_
      refine K_getR (q := 15) (ci := 7) (a2 := 201) 0 dX12_havers_12 fRX12_9 rfl rfl (by decide) rfl rfl ?_
      refine K_bipush (q := 17) (v := nI 14) dX12_havers_15 rfl rfl ?_
      refine K_iload_n (q := 18) 3 dX12_havers_17 rfl rfl rfl ?_
      refine K_iload_n (q := 19) 1 dX12_havers_18 rfl rfl rfl ?_
      refine K_csi (q := 22) [.inl (l3), .inl (l1)] dX12_havers_19 cb_X12_place cvRX12_61 rfl (Nat.le_of_ble_eq_true rfl) ⟨by decide, by decide⟩ (Nat.le_of_ble_eq_true rfl) rfl (tX12_place l3 l1 M) rfl (fun v2 M1 => ?_)
      refine K_iadd (q := 23) dX12_havers_22 rfl ?_
      refine K_iald (q := 24) dX12_havers_23 rfl (fun v3 => ?_)
      refine K_if_le (q := 27) (tgt := 31) dX12_havers_24 rfl ?_ rfl ?_
      · refine K_iconst (q := 32) (v := nI 0) dX12_havers_31 rfl rfl ?_
        exact J_sub [0, 1, 3] (tX12_havers_32 (xX12_havers_4  n) ih l1 l3 l2 (nI 0) M1) rfl
      · refine K_iconst (q := 28) (v := nI 1) dX12_havers_27 rfl rfl ?_
        refine J_goto (tgt := 32) dX12_havers_28 rfl ?_
        exact J_sub [0, 1, 3] (tX12_havers_32 (xX12_havers_4  n) ih l1 l3 l2 (nI 1) M1) rfl
def xX12_havers  (l1 : Int32) (M : j_M) : Option (Int32 × j_M) := xX12_havers_4 fu l1 (nI 0) (nI 0) M
set_option maxRecDepth 20000 in
set_option maxHeartbeats 2000000 in
theorem tX12_havers  (l1 : Int32) (M : j_M) : J (ρ := Int32 × j_M) yX12_havers cX12_havers 4 (some .int) 1 21 j_ei 0 [(0, .inr (17, 0, 200)), (1, .inl (l1))] [] M (xX12_havers  l1 M) := by
  unfold xX12_havers
  refine K_iconst (q := 1) (v := nI 0) dX12_havers_0 rfl rfl ?_
  refine K_istore_n (q := 2) (ll' := [(2, .inl ((nI 0))), (0, .inr (17, 0, 200)), (1, .inl (l1))]) dX12_havers_1 rfl (by decide) rfl rfl ?_
  refine K_iconst (q := 3) (v := nI 0) dX12_havers_2 rfl rfl ?_
  refine K_istore_n (q := 4) (ll' := [(3, .inl ((nI 0))), (2, .inl ((nI 0))), (0, .inr (17, 0, 200)), (1, .inl (l1))]) dX12_havers_3 rfl (by decide) rfl rfl ?_
  exact J_sub [2, 3, 1, 0] (tX12_havers_4 fu l1 (nI 0) (nI 0) M) rfl
theorem dX12_ofLineOnTheWay_0 : decode cX12_ofLineOnTheWay 0 = .ok (.iconst 0, 1) := by decide +kernel
theorem dX12_ofLineOnTheWay_1 : decode cX12_ofLineOnTheWay 1 = .ok (.istore_n 2, 1) := by decide +kernel
theorem dX12_ofLineOnTheWay_2 : decode cX12_ofLineOnTheWay 2 = .ok (.iconst 0, 1) := by decide +kernel
theorem dX12_ofLineOnTheWay_3 : decode cX12_ofLineOnTheWay 3 = .ok (.istore_n 3, 1) := by decide +kernel
theorem dX12_ofLineOnTheWay_4 : decode cX12_ofLineOnTheWay 4 = .ok (.iload_n 3, 1) := by decide +kernel
theorem dX12_ofLineOnTheWay_5 : decode cX12_ofLineOnTheWay 5 = .ok (.aload_n 0, 1) := by decide +kernel
theorem dX12_ofLineOnTheWay_6 : decode cX12_ofLineOnTheWay 6 = .ok (.getfield 9, 3) := by decide +kernel
theorem dX12_ofLineOnTheWay_9 : decode cX12_ofLineOnTheWay 9 = .ok (.bipush 7, 2) := by decide +kernel
theorem dX12_ofLineOnTheWay_11 : decode cX12_ofLineOnTheWay 11 = .ok (.iaload, 1) := by decide +kernel
theorem dX12_ofLineOnTheWay_12 : decode cX12_ofLineOnTheWay 12 = .ok (.if_icmp .ge 32, 3) := by decide +kernel
theorem dX12_ofLineOnTheWay_15 : decode cX12_ofLineOnTheWay 15 = .ok (.iload_n 2, 1) := by decide +kernel
theorem dX12_ofLineOnTheWay_16 : decode cX12_ofLineOnTheWay 16 = .ok (.aload_n 0, 1) := by decide +kernel
theorem dX12_ofLineOnTheWay_17 : decode cX12_ofLineOnTheWay 17 = .ok (.iload_n 3, 1) := by decide +kernel
theorem dX12_ofLineOnTheWay_18 : decode cX12_ofLineOnTheWay 18 = .ok (.iconst 3, 1) := by decide +kernel
theorem dX12_ofLineOnTheWay_19 : decode cX12_ofLineOnTheWay 19 = .ok (.invokevirtual 79, 3) := by decide +kernel
theorem dX12_ofLineOnTheWay_22 : decode cX12_ofLineOnTheWay 22 = .ok (.iload_n 1, 1) := by decide +kernel
theorem dX12_ofLineOnTheWay_23 : decode cX12_ofLineOnTheWay 23 = .ok (.if_icmp .ne 12, 3) := by decide +kernel
theorem dX12_ofLineOnTheWay_26 : decode cX12_ofLineOnTheWay 26 = .ok (.aload_n 0, 1) := by decide +kernel
theorem dX12_ofLineOnTheWay_27 : decode cX12_ofLineOnTheWay 27 = .ok (.iload_n 3, 1) := by decide +kernel
theorem dX12_ofLineOnTheWay_28 : decode cX12_ofLineOnTheWay 28 = .ok (.iconst 4, 1) := by decide +kernel
theorem dX12_ofLineOnTheWay_29 : decode cX12_ofLineOnTheWay 29 = .ok (.invokevirtual 79, 3) := by decide +kernel
theorem dX12_ofLineOnTheWay_32 : decode cX12_ofLineOnTheWay 32 = .ok (.goto 4, 3) := by decide +kernel
theorem dX12_ofLineOnTheWay_35 : decode cX12_ofLineOnTheWay 35 = .ok (.iconst 0, 1) := by decide +kernel
theorem dX12_ofLineOnTheWay_36 : decode cX12_ofLineOnTheWay 36 = .ok (.iadd, 1) := by decide +kernel
theorem dX12_ofLineOnTheWay_37 : decode cX12_ofLineOnTheWay 37 = .ok (.istore_n 2, 1) := by decide +kernel
theorem dX12_ofLineOnTheWay_38 : decode cX12_ofLineOnTheWay 38 = .ok (.iinc 3 1, 3) := by decide +kernel
theorem dX12_ofLineOnTheWay_41 : decode cX12_ofLineOnTheWay 41 = .ok (.goto (-37), 3) := by decide +kernel
theorem dX12_ofLineOnTheWay_44 : decode cX12_ofLineOnTheWay 44 = .ok (.iload_n 2, 1) := by decide +kernel
theorem dX12_ofLineOnTheWay_45 : decode cX12_ofLineOnTheWay 45 = .ok (.ireturn, 1) := by decide +kernel
def xX12_ofLineOnTheWay_36 (k4 : Int32 → Int32 → Int32 → j_M → Option (Int32 × j_M))  (l1 : Int32) (l3 : Int32) (s1 : Int32) (s0 : Int32) (M : j_M) : Option (Int32 × j_M) := k4 l1 (s1 + s0) (l3 + (nI 1)) M
set_option maxRecDepth 20000 in
set_option maxHeartbeats 2000000 in
theorem tX12_ofLineOnTheWay_36 (k4 : Int32 → Int32 → Int32 → j_M → Option (Int32 × j_M))  (hk4 : ∀ (l1 : Int32) (l2 : Int32) (l3 : Int32) (M : j_M), J (ρ := Int32 × j_M) yX12_ofLineOnTheWay cX12_ofLineOnTheWay 4 (some .int) 1 22 j_ei 4 [(0, .inr (17, 0, 200)), (1, .inl (l1)), (2, .inl (l2)), (3, .inl (l3))] [] M (k4 l1 l2 l3 M)) (l1 : Int32) (l3 : Int32) (s1 : Int32) (s0 : Int32) (M : j_M) : J (ρ := Int32 × j_M) yX12_ofLineOnTheWay cX12_ofLineOnTheWay 4 (some .int) 1 22 j_ei 36 [(0, .inr (17, 0, 200)), (1, .inl (l1)), (3, .inl (l3))] [.inl (s0), .inl (s1)] M (xX12_ofLineOnTheWay_36 k4 l1 l3 s1 s0 M) := by
  unfold xX12_ofLineOnTheWay_36
  refine K_iadd (q := 37) dX12_ofLineOnTheWay_36 rfl ?_
  refine K_istore_n (q := 38) (ll' := [(2, .inl (s1 + s0)), (0, .inr (17, 0, 200)), (1, .inl (l1)), (3, .inl (l3))]) dX12_ofLineOnTheWay_37 rfl (by decide) rfl rfl ?_
  refine K_iinc (q := 41) (v := l3 + (nI 1)) (ll' := [(3, .inl (l3 + (nI 1))), (2, .inl (s1 + s0)), (0, .inr (17, 0, 200)), (1, .inl (l1))]) 3 dX12_ofLineOnTheWay_38 rfl rfl (by decide) rfl rfl ?_
  refine J_goto (tgt := 4) dX12_ofLineOnTheWay_41 rfl ?_
  exact J_sub [2, 3, 1, 0] (hk4 l1 (s1 + s0) (l3 + (nI 1)) M) rfl
def xX12_ofLineOnTheWay_4   : Nat → Int32 → Int32 → Int32 → j_M → Option (Int32 × j_M)
  | 0, _, _, _, _ => none
  | n + 1, l1, l2, l3, M => gd (nI 7) 7460 (oli (M 201 (ix (nI 7))) fun v1 => (if v1 ≤ l3 then some (l2, M) else obi (xX12_of l3 (nI 3) M) fun v3 M2 => (if v3 = l1 then obi (xX12_of l3 (nI 4) M2) fun v5 M4 => xX12_ofLineOnTheWay_36 (xX12_ofLineOnTheWay_4  n) l1 l3 l2 v5 M4 else xX12_ofLineOnTheWay_36 (xX12_ofLineOnTheWay_4  n) l1 l3 l2 (nI 0) M2)))
set_option maxRecDepth 20000 in
set_option maxHeartbeats 2000000 in
theorem tX12_ofLineOnTheWay_4    : ∀ (n : Nat) (l1 : Int32) (l2 : Int32) (l3 : Int32) (M : j_M), J (ρ := Int32 × j_M) yX12_ofLineOnTheWay cX12_ofLineOnTheWay 4 (some .int) 1 22 j_ei 4 [(0, .inr (17, 0, 200)), (1, .inl (l1)), (2, .inl (l2)), (3, .inl (l3))] [] M (xX12_ofLineOnTheWay_4  n l1 l2 l3 M) := by
  intro n
  induction n with
  | zero => intros; exact J_none
  | succ n ih =>
    intro l1 l2 l3 M
    rw [xX12_ofLineOnTheWay_4.eq_2]
    refine K_iload_n (q := 5) 3 dX12_ofLineOnTheWay_4 rfl rfl rfl ?_
    refine K_aload_n (q := 6) 0 dX12_ofLineOnTheWay_5 rfl rfl rfl ?_
    refine K_getR (q := 9) (ci := 7) (a2 := 201) 0 dX12_ofLineOnTheWay_6 fRX12_9 rfl rfl (by decide) rfl rfl ?_
    refine K_bipush (q := 11) (v := nI 7) dX12_ofLineOnTheWay_9 rfl rfl ?_
    refine K_iald (q := 12) dX12_ofLineOnTheWay_11 rfl (fun v1 => ?_)
    refine K_icmp_ge (q := 15) (tgt := 44) dX12_ofLineOnTheWay_12 rfl ?_ rfl ?_
    · refine K_iload_n (q := 45) 2 dX12_ofLineOnTheWay_44 rfl rfl rfl ?_
      exact J_iret dX12_ofLineOnTheWay_45
    · refine K_iload_n (q := 16) 2 dX12_ofLineOnTheWay_15 rfl rfl rfl ?_
      refine K_aload_n (q := 17) 0 dX12_ofLineOnTheWay_16 rfl rfl rfl ?_
      refine K_iload_n (q := 18) 3 dX12_ofLineOnTheWay_17 rfl rfl rfl ?_
      refine K_iconst (q := 19) (v := nI 3) dX12_ofLineOnTheWay_18 rfl rfl ?_
      refine K_cvi (q := 22) [.inl (l3), .inl ((nI 3))] dX12_ofLineOnTheWay_19 cb_X12_of cvRX12_79 rc_7 (show (17 : Nat) ≠ 0 by decide) rfl (Nat.le_of_ble_eq_true rfl) ⟨by decide, by decide⟩ (Nat.le_of_ble_eq_true rfl) rfl (tX12_of l3 (nI 3) M) rfl (fun v3 M2 => ?_)
      refine K_iload_n (q := 23) 1 dX12_ofLineOnTheWay_22 rfl rfl rfl ?_
      refine K_icmp_ne (q := 26) (tgt := 35) dX12_ofLineOnTheWay_23 rfl ?_ rfl ?_
      · refine K_iconst (q := 36) (v := nI 0) dX12_ofLineOnTheWay_35 rfl rfl ?_
        exact J_sub [0, 1, 3] (tX12_ofLineOnTheWay_36 (xX12_ofLineOnTheWay_4  n) ih l1 l3 l2 (nI 0) M2) rfl
      · refine K_aload_n (q := 27) 0 dX12_ofLineOnTheWay_26 rfl rfl rfl ?_
        refine K_iload_n (q := 28) 3 dX12_ofLineOnTheWay_27 rfl rfl rfl ?_
        refine K_iconst (q := 29) (v := nI 4) dX12_ofLineOnTheWay_28 rfl rfl ?_
        refine K_cvi (q := 32) [.inl (l3), .inl ((nI 4))] dX12_ofLineOnTheWay_29 cb_X12_of cvRX12_79 rc_7 (show (17 : Nat) ≠ 0 by decide) rfl (Nat.le_of_ble_eq_true rfl) ⟨by decide, by decide⟩ (Nat.le_of_ble_eq_true rfl) rfl (tX12_of l3 (nI 4) M2) rfl (fun v5 M4 => ?_)
        refine J_goto (tgt := 36) dX12_ofLineOnTheWay_32 rfl ?_
        exact J_sub [0, 1, 3] (tX12_ofLineOnTheWay_36 (xX12_ofLineOnTheWay_4  n) ih l1 l3 l2 v5 M4) rfl
def xX12_ofLineOnTheWay  (l1 : Int32) (M : j_M) : Option (Int32 × j_M) := xX12_ofLineOnTheWay_4 fu l1 (nI 0) (nI 0) M
set_option maxRecDepth 20000 in
set_option maxHeartbeats 2000000 in
theorem tX12_ofLineOnTheWay  (l1 : Int32) (M : j_M) : J (ρ := Int32 × j_M) yX12_ofLineOnTheWay cX12_ofLineOnTheWay 4 (some .int) 1 22 j_ei 0 [(0, .inr (17, 0, 200)), (1, .inl (l1))] [] M (xX12_ofLineOnTheWay  l1 M) := by
  unfold xX12_ofLineOnTheWay
  refine K_iconst (q := 1) (v := nI 0) dX12_ofLineOnTheWay_0 rfl rfl ?_
  refine K_istore_n (q := 2) (ll' := [(2, .inl ((nI 0))), (0, .inr (17, 0, 200)), (1, .inl (l1))]) dX12_ofLineOnTheWay_1 rfl (by decide) rfl rfl ?_
  refine K_iconst (q := 3) (v := nI 0) dX12_ofLineOnTheWay_2 rfl rfl ?_
  refine K_istore_n (q := 4) (ll' := [(3, .inl ((nI 0))), (2, .inl ((nI 0))), (0, .inr (17, 0, 200)), (1, .inl (l1))]) dX12_ofLineOnTheWay_3 rfl (by decide) rfl rfl ?_
  exact J_sub [2, 3, 1, 0] (tX12_ofLineOnTheWay_4 fu l1 (nI 0) (nI 0) M) rfl
theorem dX12_ownerAt_0 : decode cX12_ownerAt 0 = .ok (.iconst 0, 1) := by decide +kernel
theorem dX12_ownerAt_1 : decode cX12_ownerAt 1 = .ok (.istore_n 2, 1) := by decide +kernel
theorem dX12_ownerAt_2 : decode cX12_ownerAt 2 = .ok (.iload_n 2, 1) := by decide +kernel
theorem dX12_ownerAt_3 : decode cX12_ownerAt 3 = .ok (.bipush 6, 2) := by decide +kernel
theorem dX12_ownerAt_5 : decode cX12_ownerAt 5 = .ok (.if_icmp .gt 28, 3) := by decide +kernel
theorem dX12_ownerAt_8 : decode cX12_ownerAt 8 = .ok (.aload_n 0, 1) := by decide +kernel
theorem dX12_ownerAt_9 : decode cX12_ownerAt 9 = .ok (.getfield 9, 3) := by decide +kernel
theorem dX12_ownerAt_12 : decode cX12_ownerAt 12 = .ok (.bipush 70, 2) := by decide +kernel
theorem dX12_ownerAt_14 : decode cX12_ownerAt 14 = .ok (.iload_n 2, 1) := by decide +kernel
theorem dX12_ownerAt_15 : decode cX12_ownerAt 15 = .ok (.iload_n 1, 1) := by decide +kernel
theorem dX12_ownerAt_16 : decode cX12_ownerAt 16 = .ok (.invokestatic 61, 3) := by decide +kernel
theorem dX12_ownerAt_19 : decode cX12_ownerAt 19 = .ok (.iadd, 1) := by decide +kernel
theorem dX12_ownerAt_20 : decode cX12_ownerAt 20 = .ok (.iaload, 1) := by decide +kernel
theorem dX12_ownerAt_21 : decode cX12_ownerAt 21 = .ok (.iconst 1, 1) := by decide +kernel
theorem dX12_ownerAt_22 : decode cX12_ownerAt 22 = .ok (.if_icmp .ne 5, 3) := by decide +kernel
theorem dX12_ownerAt_25 : decode cX12_ownerAt 25 = .ok (.iload_n 2, 1) := by decide +kernel
theorem dX12_ownerAt_26 : decode cX12_ownerAt 26 = .ok (.ireturn, 1) := by decide +kernel
theorem dX12_ownerAt_27 : decode cX12_ownerAt 27 = .ok (.iinc 2 1, 3) := by decide +kernel
theorem dX12_ownerAt_30 : decode cX12_ownerAt 30 = .ok (.goto (-28), 3) := by decide +kernel
theorem dX12_ownerAt_33 : decode cX12_ownerAt 33 = .ok (.iconst (-1), 1) := by decide +kernel
theorem dX12_ownerAt_34 : decode cX12_ownerAt 34 = .ok (.ireturn, 1) := by decide +kernel
def xX12_ownerAt_2   : Nat → Int32 → Int32 → j_M → Option (Int32 × j_M)
  | 0, _, _, _ => none
  | n + 1, l1, l2, M => (if (nI 6) < l2 then some ((-1 : Int32), M) else obi (xX12_place l2 l1 M) fun v2 M1 => gd ((nI 70) + v2) 7460 (oli (M1 201 (ix ((nI 70) + v2))) fun v3 => (if v3 = (nI 1) then some (l2, M1) else xX12_ownerAt_2  n l1 (l2 + (nI 1)) M1)))
set_option maxRecDepth 20000 in
set_option maxHeartbeats 2000000 in
theorem tX12_ownerAt_2    : ∀ (n : Nat) (l1 : Int32) (l2 : Int32) (M : j_M), J (ρ := Int32 × j_M) yX12_ownerAt cX12_ownerAt 3 (some .int) 1 21 j_ei 2 [(0, .inr (17, 0, 200)), (1, .inl (l1)), (2, .inl (l2))] [] M (xX12_ownerAt_2  n l1 l2 M) := by
  intro n
  induction n with
  | zero => intros; exact J_none
  | succ n ih =>
    intro l1 l2 M
    rw [xX12_ownerAt_2.eq_2]
    refine K_iload_n (q := 3) 2 dX12_ownerAt_2 rfl rfl rfl ?_
    refine K_bipush (q := 5) (v := nI 6) dX12_ownerAt_3 rfl rfl ?_
    refine K_icmp_gt (q := 8) (tgt := 33) dX12_ownerAt_5 rfl ?_ rfl ?_
    · refine K_iconst (q := 34) (v := -1) dX12_ownerAt_33 rfl rfl ?_
      exact J_iret dX12_ownerAt_34
    · refine K_aload_n (q := 9) 0 dX12_ownerAt_8 rfl rfl rfl ?_
      refine K_getR (q := 12) (ci := 7) (a2 := 201) 0 dX12_ownerAt_9 fRX12_9 rfl rfl (by decide) rfl rfl ?_
      refine K_bipush (q := 14) (v := nI 70) dX12_ownerAt_12 rfl rfl ?_
      refine K_iload_n (q := 15) 2 dX12_ownerAt_14 rfl rfl rfl ?_
      refine K_iload_n (q := 16) 1 dX12_ownerAt_15 rfl rfl rfl ?_
      refine K_csi (q := 19) [.inl (l2), .inl (l1)] dX12_ownerAt_16 cb_X12_place cvRX12_61 rfl (Nat.le_of_ble_eq_true rfl) ⟨by decide, by decide⟩ (Nat.le_of_ble_eq_true rfl) rfl (tX12_place l2 l1 M) rfl (fun v2 M1 => ?_)
      refine K_iadd (q := 20) dX12_ownerAt_19 rfl ?_
      refine K_iald (q := 21) dX12_ownerAt_20 rfl (fun v3 => ?_)
      refine K_iconst (q := 22) (v := nI 1) dX12_ownerAt_21 rfl rfl ?_
      refine K_icmp_ne (q := 25) (tgt := 27) dX12_ownerAt_22 rfl ?_ rfl ?_
      · refine K_iinc (q := 30) (v := l2 + (nI 1)) (ll' := [(2, .inl (l2 + (nI 1))), (0, .inr (17, 0, 200)), (1, .inl (l1))]) 2 dX12_ownerAt_27 rfl rfl (by decide) rfl rfl ?_
        refine J_goto (tgt := 2) dX12_ownerAt_30 rfl ?_
        exact J_sub [1, 2, 0] (ih l1 (l2 + (nI 1)) M1) rfl
      · refine K_iload_n (q := 26) 2 dX12_ownerAt_25 rfl rfl rfl ?_
        exact J_iret dX12_ownerAt_26
def xX12_ownerAt  (l1 : Int32) (M : j_M) : Option (Int32 × j_M) := xX12_ownerAt_2 fu l1 (nI 0) M
set_option maxRecDepth 20000 in
set_option maxHeartbeats 2000000 in
theorem tX12_ownerAt  (l1 : Int32) (M : j_M) : J (ρ := Int32 × j_M) yX12_ownerAt cX12_ownerAt 3 (some .int) 1 21 j_ei 0 [(0, .inr (17, 0, 200)), (1, .inl (l1))] [] M (xX12_ownerAt  l1 M) := by
  unfold xX12_ownerAt
  refine K_iconst (q := 1) (v := nI 0) dX12_ownerAt_0 rfl rfl ?_
  refine K_istore_n (q := 2) (ll' := [(2, .inl ((nI 0))), (0, .inr (17, 0, 200)), (1, .inl (l1))]) dX12_ownerAt_1 rfl (by decide) rfl rfl ?_
  exact J_sub [1, 2, 0] (tX12_ownerAt_2 fu l1 (nI 0) M) rfl
theorem dX12_setOf_0 : decode cX12_setOf 0 = .ok (.iconst 0, 1) := by decide +kernel
theorem dX12_setOf_1 : decode cX12_setOf 1 = .ok (.istore_n 3, 1) := by decide +kernel
theorem dX12_setOf_2 : decode cX12_setOf 2 = .ok (.iconst 0, 1) := by decide +kernel
theorem dX12_setOf_3 : decode cX12_setOf 3 = .ok (.istore 4, 2) := by decide +kernel
theorem dX12_setOf_5 : decode cX12_setOf 5 = .ok (.iload 4, 2) := by decide +kernel
theorem dX12_setOf_7 : decode cX12_setOf 7 = .ok (.aload_n 0, 1) := by decide +kernel
theorem dX12_setOf_8 : decode cX12_setOf 8 = .ok (.getfield 9, 3) := by decide +kernel
theorem dX12_setOf_11 : decode cX12_setOf 11 = .ok (.iconst 0, 1) := by decide +kernel
theorem dX12_setOf_12 : decode cX12_setOf 12 = .ok (.iaload, 1) := by decide +kernel
theorem dX12_setOf_13 : decode cX12_setOf 13 = .ok (.if_icmp .ge 49, 3) := by decide +kernel
theorem dX12_setOf_16 : decode cX12_setOf 16 = .ok (.iload_n 2, 1) := by decide +kernel
theorem dX12_setOf_17 : decode cX12_setOf 17 = .ok (.ifCond .eq 21, 3) := by decide +kernel
theorem dX12_setOf_20 : decode cX12_setOf 20 = .ok (.aload_n 0, 1) := by decide +kernel
theorem dX12_setOf_21 : decode cX12_setOf 21 = .ok (.getfield 9, 3) := by decide +kernel
theorem dX12_setOf_24 : decode cX12_setOf 24 = .ok (.sipush 292, 3) := by decide +kernel
theorem dX12_setOf_27 : decode cX12_setOf 27 = .ok (.iload 4, 2) := by decide +kernel
theorem dX12_setOf_29 : decode cX12_setOf 29 = .ok (.iadd, 1) := by decide +kernel
theorem dX12_setOf_30 : decode cX12_setOf 30 = .ok (.iaload, 1) := by decide +kernel
theorem dX12_setOf_31 : decode cX12_setOf 31 = .ok (.iload_n 1, 1) := by decide +kernel
theorem dX12_setOf_32 : decode cX12_setOf 32 = .ok (.if_icmp .ne 24, 3) := by decide +kernel
theorem dX12_setOf_35 : decode cX12_setOf 35 = .ok (.goto 14, 3) := by decide +kernel
theorem dX12_setOf_38 : decode cX12_setOf 38 = .ok (.aload_n 0, 1) := by decide +kernel
theorem dX12_setOf_39 : decode cX12_setOf 39 = .ok (.iload 4, 2) := by decide +kernel
theorem dX12_setOf_41 : decode cX12_setOf 41 = .ok (.iload_n 1, 1) := by decide +kernel
theorem dX12_setOf_42 : decode cX12_setOf 42 = .ok (.iconst 1, 1) := by decide +kernel
theorem dX12_setOf_43 : decode cX12_setOf 43 = .ok (.invokevirtual 143, 3) := by decide +kernel
theorem dX12_setOf_46 : decode cX12_setOf 46 = .ok (.ifCond .eq 10, 3) := by decide +kernel
theorem dX12_setOf_49 : decode cX12_setOf 49 = .ok (.iload_n 3, 1) := by decide +kernel
theorem dX12_setOf_50 : decode cX12_setOf 50 = .ok (.iconst 1, 1) := by decide +kernel
theorem dX12_setOf_51 : decode cX12_setOf 51 = .ok (.iload 4, 2) := by decide +kernel
theorem dX12_setOf_53 : decode cX12_setOf 53 = .ok (.ishl, 1) := by decide +kernel
theorem dX12_setOf_54 : decode cX12_setOf 54 = .ok (.ior, 1) := by decide +kernel
theorem dX12_setOf_55 : decode cX12_setOf 55 = .ok (.istore_n 3, 1) := by decide +kernel
theorem dX12_setOf_56 : decode cX12_setOf 56 = .ok (.iinc 4 1, 3) := by decide +kernel
theorem dX12_setOf_59 : decode cX12_setOf 59 = .ok (.goto (-54), 3) := by decide +kernel
theorem dX12_setOf_62 : decode cX12_setOf 62 = .ok (.iload_n 3, 1) := by decide +kernel
theorem dX12_setOf_63 : decode cX12_setOf 63 = .ok (.ireturn, 1) := by decide +kernel
def xX12_setOf_49 (k5 : Int32 → Int32 → Int32 → Int32 → j_M → Option (Int32 × j_M))  (l1 : Int32) (l2 : Int32) (l3 : Int32) (l4 : Int32) (M : j_M) : Option (Int32 × j_M) := k5 l1 l2 (l3 ||| ((nI 1) <<< (l4 &&& 31))) (l4 + (nI 1)) M
set_option maxRecDepth 20000 in
set_option maxHeartbeats 2000000 in
theorem tX12_setOf_49 (k5 : Int32 → Int32 → Int32 → Int32 → j_M → Option (Int32 × j_M))  (hk5 : ∀ (l1 : Int32) (l2 : Int32) (l3 : Int32) (l4 : Int32) (M : j_M), J (ρ := Int32 × j_M) yX12_setOf cX12_setOf 5 (some .int) 2 45 j_ei 5 [(0, .inr (17, 0, 200)), (1, .inl (l1)), (2, .inl (l2)), (3, .inl (l3)), (4, .inl (l4))] [] M (k5 l1 l2 l3 l4 M)) (l1 : Int32) (l2 : Int32) (l3 : Int32) (l4 : Int32) (M : j_M) : J (ρ := Int32 × j_M) yX12_setOf cX12_setOf 5 (some .int) 2 45 j_ei 49 [(0, .inr (17, 0, 200)), (1, .inl (l1)), (2, .inl (l2)), (3, .inl (l3)), (4, .inl (l4))] [] M (xX12_setOf_49 k5 l1 l2 l3 l4 M) := by
  unfold xX12_setOf_49
  refine K_iload_n (q := 50) 3 dX12_setOf_49 rfl rfl rfl ?_
  refine K_iconst (q := 51) (v := nI 1) dX12_setOf_50 rfl rfl ?_
  refine K_iload (q := 53) 4 dX12_setOf_51 rfl rfl ?_
  refine K_ishl (q := 54) dX12_setOf_53 rfl ?_
  refine K_ior (q := 55) dX12_setOf_54 rfl ?_
  refine K_istore_n (q := 56) (ll' := [(3, .inl (l3 ||| ((nI 1) <<< (l4 &&& 31)))), (0, .inr (17, 0, 200)), (1, .inl (l1)), (2, .inl (l2)), (4, .inl (l4))]) dX12_setOf_55 rfl (by decide) rfl rfl ?_
  refine K_iinc (q := 59) (v := l4 + (nI 1)) (ll' := [(4, .inl (l4 + (nI 1))), (3, .inl (l3 ||| ((nI 1) <<< (l4 &&& 31)))), (0, .inr (17, 0, 200)), (1, .inl (l1)), (2, .inl (l2))]) 4 dX12_setOf_56 rfl rfl (by decide) rfl rfl ?_
  refine J_goto (tgt := 5) dX12_setOf_59 rfl ?_
  exact J_sub [2, 3, 4, 1, 0] (hk5 l1 l2 (l3 ||| ((nI 1) <<< (l4 &&& 31))) (l4 + (nI 1)) M) rfl
def xX12_setOf_5   : Nat → Int32 → Int32 → Int32 → Int32 → j_M → Option (Int32 × j_M)
  | 0, _, _, _, _, _ => none
  | n + 1, l1, l2, l3, l4, M => gd (nI 0) 7460 (oli (M 201 (ix (nI 0))) fun v1 => (if v1 ≤ l4 then some (l3, M) else (if l2 = (0 : Int32) then obi (xX12_isHit l4 l1 (nI 1) M) fun v3 M2 => (if v3 = (0 : Int32) then xX12_setOf_5  n l1 l2 l3 (l4 + (nI 1)) M2 else xX12_setOf_49 (xX12_setOf_5  n) l1 l2 l3 l4 M2) else gd ((nI 292) + l4) 7460 (oli (M 201 (ix ((nI 292) + l4))) fun v4 => (if v4 = l1 then xX12_setOf_49 (xX12_setOf_5  n) l1 l2 l3 l4 M else xX12_setOf_5  n l1 l2 l3 (l4 + (nI 1)) M)))))
set_option maxRecDepth 20000 in
set_option maxHeartbeats 2000000 in
theorem tX12_setOf_5    : ∀ (n : Nat) (l1 : Int32) (l2 : Int32) (l3 : Int32) (l4 : Int32) (M : j_M), J (ρ := Int32 × j_M) yX12_setOf cX12_setOf 5 (some .int) 2 45 j_ei 5 [(0, .inr (17, 0, 200)), (1, .inl (l1)), (2, .inl (l2)), (3, .inl (l3)), (4, .inl (l4))] [] M (xX12_setOf_5  n l1 l2 l3 l4 M) := by
  intro n
  induction n with
  | zero => intros; exact J_none
  | succ n ih =>
    intro l1 l2 l3 l4 M
    rw [xX12_setOf_5.eq_2]
    refine K_iload (q := 7) 4 dX12_setOf_5 rfl rfl ?_
    refine K_aload_n (q := 8) 0 dX12_setOf_7 rfl rfl rfl ?_
    refine K_getR (q := 11) (ci := 7) (a2 := 201) 0 dX12_setOf_8 fRX12_9 rfl rfl (by decide) rfl rfl ?_
    refine K_iconst (q := 12) (v := nI 0) dX12_setOf_11 rfl rfl ?_
    refine K_iald (q := 13) dX12_setOf_12 rfl (fun v1 => ?_)
    refine K_icmp_ge (q := 16) (tgt := 62) dX12_setOf_13 rfl ?_ rfl ?_
    · refine K_iload_n (q := 63) 3 dX12_setOf_62 rfl rfl rfl ?_
      exact J_iret dX12_setOf_63
    · refine K_iload_n (q := 17) 2 dX12_setOf_16 rfl rfl rfl ?_
      refine K_if_eq (q := 20) (tgt := 38) dX12_setOf_17 rfl ?_ rfl ?_
      · refine K_aload_n (q := 39) 0 dX12_setOf_38 rfl rfl rfl ?_
        refine K_iload (q := 41) 4 dX12_setOf_39 rfl rfl ?_
        refine K_iload_n (q := 42) 1 dX12_setOf_41 rfl rfl rfl ?_
        refine K_iconst (q := 43) (v := nI 1) dX12_setOf_42 rfl rfl ?_
        refine K_cvi (q := 46) [.inl (l4), .inl (l1), .inl ((nI 1))] dX12_setOf_43 cb_X12_isHit cvRX12_143 rc_7 (show (17 : Nat) ≠ 0 by decide) rfl (Nat.le_of_ble_eq_true rfl) ⟨by decide, by decide⟩ (Nat.le_of_ble_eq_true rfl) rfl (tX12_isHit l4 l1 (nI 1) M) rfl (fun v3 M2 => ?_)
        refine K_if_eq (q := 49) (tgt := 56) dX12_setOf_46 rfl ?_ rfl ?_
        · refine K_iinc (q := 59) (v := l4 + (nI 1)) (ll' := [(4, .inl (l4 + (nI 1))), (0, .inr (17, 0, 200)), (1, .inl (l1)), (2, .inl (l2)), (3, .inl (l3))]) 4 dX12_setOf_56 rfl rfl (by decide) rfl rfl ?_
          refine J_goto (tgt := 5) dX12_setOf_59 rfl ?_
          exact J_sub [1, 2, 3, 4, 0] (ih l1 l2 l3 (l4 + (nI 1)) M2) rfl
        · exact J_sub [0, 1, 2, 3, 4] (tX12_setOf_49 (xX12_setOf_5  n) ih l1 l2 l3 l4 M2) rfl
      · refine K_aload_n (q := 21) 0 dX12_setOf_20 rfl rfl rfl ?_
        refine K_getR (q := 24) (ci := 7) (a2 := 201) 0 dX12_setOf_21 fRX12_9 rfl rfl (by decide) rfl rfl ?_
        refine K_sipush (q := 27) (v := nI 292) dX12_setOf_24 rfl rfl ?_
        refine K_iload (q := 29) 4 dX12_setOf_27 rfl rfl ?_
        refine K_iadd (q := 30) dX12_setOf_29 rfl ?_
        refine K_iald (q := 31) dX12_setOf_30 rfl (fun v4 => ?_)
        refine K_iload_n (q := 32) 1 dX12_setOf_31 rfl rfl rfl ?_
        refine K_icmp_ne (q := 35) (tgt := 56) dX12_setOf_32 rfl ?_ rfl ?_
        · refine K_iinc (q := 59) (v := l4 + (nI 1)) (ll' := [(4, .inl (l4 + (nI 1))), (0, .inr (17, 0, 200)), (1, .inl (l1)), (2, .inl (l2)), (3, .inl (l3))]) 4 dX12_setOf_56 rfl rfl (by decide) rfl rfl ?_
          refine J_goto (tgt := 5) dX12_setOf_59 rfl ?_
          exact J_sub [1, 2, 3, 4, 0] (ih l1 l2 l3 (l4 + (nI 1)) M) rfl
        · refine J_goto (tgt := 49) dX12_setOf_35 rfl ?_
          exact J_sub [0, 1, 2, 3, 4] (tX12_setOf_49 (xX12_setOf_5  n) ih l1 l2 l3 l4 M) rfl
def xX12_setOf  (l1 : Int32) (l2 : Int32) (M : j_M) : Option (Int32 × j_M) := xX12_setOf_5 fu l1 l2 (nI 0) (nI 0) M
set_option maxRecDepth 20000 in
set_option maxHeartbeats 2000000 in
theorem tX12_setOf  (l1 : Int32) (l2 : Int32) (M : j_M) : J (ρ := Int32 × j_M) yX12_setOf cX12_setOf 5 (some .int) 2 45 j_ei 0 [(0, .inr (17, 0, 200)), (1, .inl (l1)), (2, .inl (l2))] [] M (xX12_setOf  l1 l2 M) := by
  unfold xX12_setOf
  refine K_iconst (q := 1) (v := nI 0) dX12_setOf_0 rfl rfl ?_
  refine K_istore_n (q := 2) (ll' := [(3, .inl ((nI 0))), (0, .inr (17, 0, 200)), (1, .inl (l1)), (2, .inl (l2))]) dX12_setOf_1 rfl (by decide) rfl rfl ?_
  refine K_iconst (q := 3) (v := nI 0) dX12_setOf_2 rfl rfl ?_
  refine K_istore (q := 5) (ll' := [(4, .inl ((nI 0))), (3, .inl ((nI 0))), (0, .inr (17, 0, 200)), (1, .inl (l1)), (2, .inl (l2))]) dX12_setOf_3 (by decide) rfl rfl ?_
  exact J_sub [2, 3, 4, 1, 0] (tX12_setOf_5 fu l1 l2 (nI 0) (nI 0) M) rfl
theorem dX12_storer_0 : decode cX12_storer 0 = .ok (.iconst 0, 1) := by decide +kernel
theorem dX12_storer_1 : decode cX12_storer 1 = .ok (.istore_n 2, 1) := by decide +kernel
theorem dX12_storer_2 : decode cX12_storer 2 = .ok (.iload_n 2, 1) := by decide +kernel
theorem dX12_storer_3 : decode cX12_storer 3 = .ok (.aload_n 0, 1) := by decide +kernel
theorem dX12_storer_4 : decode cX12_storer 4 = .ok (.getfield 9, 3) := by decide +kernel
theorem dX12_storer_7 : decode cX12_storer 7 = .ok (.iconst 0, 1) := by decide +kernel
theorem dX12_storer_8 : decode cX12_storer 8 = .ok (.iaload, 1) := by decide +kernel
theorem dX12_storer_9 : decode cX12_storer 9 = .ok (.if_icmp .ge 21, 3) := by decide +kernel
theorem dX12_storer_12 : decode cX12_storer 12 = .ok (.aload_n 0, 1) := by decide +kernel
theorem dX12_storer_13 : decode cX12_storer 13 = .ok (.iload_n 2, 1) := by decide +kernel
theorem dX12_storer_14 : decode cX12_storer 14 = .ok (.iload_n 1, 1) := by decide +kernel
theorem dX12_storer_15 : decode cX12_storer 15 = .ok (.iconst 2, 1) := by decide +kernel
theorem dX12_storer_16 : decode cX12_storer 16 = .ok (.invokevirtual 143, 3) := by decide +kernel
theorem dX12_storer_19 : decode cX12_storer 19 = .ok (.ifCond .eq 5, 3) := by decide +kernel
theorem dX12_storer_22 : decode cX12_storer 22 = .ok (.iload_n 2, 1) := by decide +kernel
theorem dX12_storer_23 : decode cX12_storer 23 = .ok (.ireturn, 1) := by decide +kernel
theorem dX12_storer_24 : decode cX12_storer 24 = .ok (.iinc 2 1, 3) := by decide +kernel
theorem dX12_storer_27 : decode cX12_storer 27 = .ok (.goto (-25), 3) := by decide +kernel
theorem dX12_storer_30 : decode cX12_storer 30 = .ok (.iconst (-1), 1) := by decide +kernel
theorem dX12_storer_31 : decode cX12_storer 31 = .ok (.ireturn, 1) := by decide +kernel
def xX12_storer_2   : Nat → Int32 → Int32 → j_M → Option (Int32 × j_M)
  | 0, _, _, _ => none
  | n + 1, l1, l2, M => gd (nI 0) 7460 (oli (M 201 (ix (nI 0))) fun v1 => (if v1 ≤ l2 then some ((-1 : Int32), M) else obi (xX12_isHit l2 l1 (nI 2) M) fun v3 M2 => (if v3 = (0 : Int32) then xX12_storer_2  n l1 (l2 + (nI 1)) M2 else some (l2, M2))))
set_option maxRecDepth 20000 in
set_option maxHeartbeats 2000000 in
theorem tX12_storer_2    : ∀ (n : Nat) (l1 : Int32) (l2 : Int32) (M : j_M), J (ρ := Int32 × j_M) yX12_storer cX12_storer 3 (some .int) 2 45 j_ei 2 [(0, .inr (17, 0, 200)), (1, .inl (l1)), (2, .inl (l2))] [] M (xX12_storer_2  n l1 l2 M) := by
  intro n
  induction n with
  | zero => intros; exact J_none
  | succ n ih =>
    intro l1 l2 M
    rw [xX12_storer_2.eq_2]
    refine K_iload_n (q := 3) 2 dX12_storer_2 rfl rfl rfl ?_
    refine K_aload_n (q := 4) 0 dX12_storer_3 rfl rfl rfl ?_
    refine K_getR (q := 7) (ci := 7) (a2 := 201) 0 dX12_storer_4 fRX12_9 rfl rfl (by decide) rfl rfl ?_
    refine K_iconst (q := 8) (v := nI 0) dX12_storer_7 rfl rfl ?_
    refine K_iald (q := 9) dX12_storer_8 rfl (fun v1 => ?_)
    refine K_icmp_ge (q := 12) (tgt := 30) dX12_storer_9 rfl ?_ rfl ?_
    · refine K_iconst (q := 31) (v := -1) dX12_storer_30 rfl rfl ?_
      exact J_iret dX12_storer_31
    · refine K_aload_n (q := 13) 0 dX12_storer_12 rfl rfl rfl ?_
      refine K_iload_n (q := 14) 2 dX12_storer_13 rfl rfl rfl ?_
      refine K_iload_n (q := 15) 1 dX12_storer_14 rfl rfl rfl ?_
      refine K_iconst (q := 16) (v := nI 2) dX12_storer_15 rfl rfl ?_
      refine K_cvi (q := 19) [.inl (l2), .inl (l1), .inl ((nI 2))] dX12_storer_16 cb_X12_isHit cvRX12_143 rc_7 (show (17 : Nat) ≠ 0 by decide) rfl (Nat.le_of_ble_eq_true rfl) ⟨by decide, by decide⟩ (Nat.le_of_ble_eq_true rfl) rfl (tX12_isHit l2 l1 (nI 2) M) rfl (fun v3 M2 => ?_)
      refine K_if_eq (q := 22) (tgt := 24) dX12_storer_19 rfl ?_ rfl ?_
      · refine K_iinc (q := 27) (v := l2 + (nI 1)) (ll' := [(2, .inl (l2 + (nI 1))), (0, .inr (17, 0, 200)), (1, .inl (l1))]) 2 dX12_storer_24 rfl rfl (by decide) rfl rfl ?_
        refine J_goto (tgt := 2) dX12_storer_27 rfl ?_
        exact J_sub [1, 2, 0] (ih l1 (l2 + (nI 1)) M2) rfl
      · refine K_iload_n (q := 23) 2 dX12_storer_22 rfl rfl rfl ?_
        exact J_iret dX12_storer_23
def xX12_storer  (l1 : Int32) (M : j_M) : Option (Int32 × j_M) := xX12_storer_2 fu l1 (nI 0) M
set_option maxRecDepth 20000 in
set_option maxHeartbeats 2000000 in
theorem tX12_storer  (l1 : Int32) (M : j_M) : J (ρ := Int32 × j_M) yX12_storer cX12_storer 3 (some .int) 2 45 j_ei 0 [(0, .inr (17, 0, 200)), (1, .inl (l1))] [] M (xX12_storer  l1 M) := by
  unfold xX12_storer
  refine K_iconst (q := 1) (v := nI 0) dX12_storer_0 rfl rfl ?_
  refine K_istore_n (q := 2) (ll' := [(2, .inl ((nI 0))), (0, .inr (17, 0, 200)), (1, .inl (l1))]) dX12_storer_1 rfl (by decide) rfl rfl ?_
  exact J_sub [1, 2, 0] (tX12_storer_2 fu l1 (nI 0) M) rfl
theorem dX12_tablesOf_0 : decode cX12_tablesOf 0 = .ok (.iconst 0, 1) := by decide +kernel
theorem dX12_tablesOf_1 : decode cX12_tablesOf 1 = .ok (.istore_n 2, 1) := by decide +kernel
theorem dX12_tablesOf_2 : decode cX12_tablesOf 2 = .ok (.iconst 0, 1) := by decide +kernel
theorem dX12_tablesOf_3 : decode cX12_tablesOf 3 = .ok (.istore_n 3, 1) := by decide +kernel
theorem dX12_tablesOf_4 : decode cX12_tablesOf 4 = .ok (.iload_n 3, 1) := by decide +kernel
theorem dX12_tablesOf_5 : decode cX12_tablesOf 5 = .ok (.bipush 6, 2) := by decide +kernel
theorem dX12_tablesOf_7 : decode cX12_tablesOf 7 = .ok (.if_icmp .gt 35, 3) := by decide +kernel
theorem dX12_tablesOf_10 : decode cX12_tablesOf 10 = .ok (.iload_n 2, 1) := by decide +kernel
theorem dX12_tablesOf_11 : decode cX12_tablesOf 11 = .ok (.aload_n 0, 1) := by decide +kernel
theorem dX12_tablesOf_12 : decode cX12_tablesOf 12 = .ok (.iload_n 3, 1) := by decide +kernel
theorem dX12_tablesOf_13 : decode cX12_tablesOf 13 = .ok (.invokevirtual 119, 3) := by decide +kernel
theorem dX12_tablesOf_16 : decode cX12_tablesOf 16 = .ok (.ifCond .eq 17, 3) := by decide +kernel
theorem dX12_tablesOf_19 : decode cX12_tablesOf 19 = .ok (.aload_n 0, 1) := by decide +kernel
theorem dX12_tablesOf_20 : decode cX12_tablesOf 20 = .ok (.iload_n 3, 1) := by decide +kernel
theorem dX12_tablesOf_21 : decode cX12_tablesOf 21 = .ok (.iload_n 1, 1) := by decide +kernel
theorem dX12_tablesOf_22 : decode cX12_tablesOf 22 = .ok (.invokevirtual 112, 3) := by decide +kernel
theorem dX12_tablesOf_25 : decode cX12_tablesOf 25 = .ok (.iconst (-1), 1) := by decide +kernel
theorem dX12_tablesOf_26 : decode cX12_tablesOf 26 = .ok (.if_icmp .eq 7, 3) := by decide +kernel
theorem dX12_tablesOf_29 : decode cX12_tablesOf 29 = .ok (.iconst 1, 1) := by decide +kernel
theorem dX12_tablesOf_30 : decode cX12_tablesOf 30 = .ok (.goto 4, 3) := by decide +kernel
theorem dX12_tablesOf_33 : decode cX12_tablesOf 33 = .ok (.iconst 0, 1) := by decide +kernel
theorem dX12_tablesOf_34 : decode cX12_tablesOf 34 = .ok (.iadd, 1) := by decide +kernel
theorem dX12_tablesOf_35 : decode cX12_tablesOf 35 = .ok (.istore_n 2, 1) := by decide +kernel
theorem dX12_tablesOf_36 : decode cX12_tablesOf 36 = .ok (.iinc 3 1, 3) := by decide +kernel
theorem dX12_tablesOf_39 : decode cX12_tablesOf 39 = .ok (.goto (-35), 3) := by decide +kernel
theorem dX12_tablesOf_42 : decode cX12_tablesOf 42 = .ok (.iload_n 2, 1) := by decide +kernel
theorem dX12_tablesOf_43 : decode cX12_tablesOf 43 = .ok (.ireturn, 1) := by decide +kernel
def xX12_tablesOf_34 (k4 : Int32 → Int32 → Int32 → j_M → Option (Int32 × j_M))  (l1 : Int32) (l3 : Int32) (s1 : Int32) (s0 : Int32) (M : j_M) : Option (Int32 × j_M) := k4 l1 (s1 + s0) (l3 + (nI 1)) M
set_option maxRecDepth 20000 in
set_option maxHeartbeats 2000000 in
theorem tX12_tablesOf_34 (k4 : Int32 → Int32 → Int32 → j_M → Option (Int32 × j_M))  (hk4 : ∀ (l1 : Int32) (l2 : Int32) (l3 : Int32) (M : j_M), J (ρ := Int32 × j_M) yX12_tablesOf cX12_tablesOf 4 (some .int) 3 64 j_ei 4 [(0, .inr (17, 0, 200)), (1, .inl (l1)), (2, .inl (l2)), (3, .inl (l3))] [] M (k4 l1 l2 l3 M)) (l1 : Int32) (l3 : Int32) (s1 : Int32) (s0 : Int32) (M : j_M) : J (ρ := Int32 × j_M) yX12_tablesOf cX12_tablesOf 4 (some .int) 3 64 j_ei 34 [(0, .inr (17, 0, 200)), (1, .inl (l1)), (3, .inl (l3))] [.inl (s0), .inl (s1)] M (xX12_tablesOf_34 k4 l1 l3 s1 s0 M) := by
  unfold xX12_tablesOf_34
  refine K_iadd (q := 35) dX12_tablesOf_34 rfl ?_
  refine K_istore_n (q := 36) (ll' := [(2, .inl (s1 + s0)), (0, .inr (17, 0, 200)), (1, .inl (l1)), (3, .inl (l3))]) dX12_tablesOf_35 rfl (by decide) rfl rfl ?_
  refine K_iinc (q := 39) (v := l3 + (nI 1)) (ll' := [(3, .inl (l3 + (nI 1))), (2, .inl (s1 + s0)), (0, .inr (17, 0, 200)), (1, .inl (l1))]) 3 dX12_tablesOf_36 rfl rfl (by decide) rfl rfl ?_
  refine J_goto (tgt := 4) dX12_tablesOf_39 rfl ?_
  exact J_sub [2, 3, 1, 0] (hk4 l1 (s1 + s0) (l3 + (nI 1)) M) rfl
def xX12_tablesOf_33 (k4 : Int32 → Int32 → Int32 → j_M → Option (Int32 × j_M))  (l1 : Int32) (l3 : Int32) (s0 : Int32) (M : j_M) : Option (Int32 × j_M) := xX12_tablesOf_34 k4 l1 l3 s0 (nI 0) M
set_option maxRecDepth 20000 in
set_option maxHeartbeats 2000000 in
theorem tX12_tablesOf_33 (k4 : Int32 → Int32 → Int32 → j_M → Option (Int32 × j_M))  (hk4 : ∀ (l1 : Int32) (l2 : Int32) (l3 : Int32) (M : j_M), J (ρ := Int32 × j_M) yX12_tablesOf cX12_tablesOf 4 (some .int) 3 64 j_ei 4 [(0, .inr (17, 0, 200)), (1, .inl (l1)), (2, .inl (l2)), (3, .inl (l3))] [] M (k4 l1 l2 l3 M)) (l1 : Int32) (l3 : Int32) (s0 : Int32) (M : j_M) : J (ρ := Int32 × j_M) yX12_tablesOf cX12_tablesOf 4 (some .int) 3 64 j_ei 33 [(0, .inr (17, 0, 200)), (1, .inl (l1)), (3, .inl (l3))] [.inl (s0)] M (xX12_tablesOf_33 k4 l1 l3 s0 M) := by
  unfold xX12_tablesOf_33
  refine K_iconst (q := 34) (v := nI 0) dX12_tablesOf_33 rfl rfl ?_
  exact J_sub [0, 1, 2] (tX12_tablesOf_34 k4 hk4 l1 l3 s0 (nI 0) M) rfl
def xX12_tablesOf_4   : Nat → Int32 → Int32 → Int32 → j_M → Option (Int32 × j_M)
  | 0, _, _, _, _ => none
  | n + 1, l1, l2, l3, M => (if (nI 6) < l3 then some (l2, M) else obi (xX12_isNode l3 M) fun v2 M1 => (if v2 = (0 : Int32) then xX12_tablesOf_33 (xX12_tablesOf_4  n) l1 l3 l2 M1 else obi (xX12_turn l3 l1 M1) fun v4 M3 => (if v4 = (-1 : Int32) then xX12_tablesOf_33 (xX12_tablesOf_4  n) l1 l3 l2 M3 else xX12_tablesOf_34 (xX12_tablesOf_4  n) l1 l3 l2 (nI 1) M3)))
set_option maxRecDepth 20000 in
set_option maxHeartbeats 2000000 in
theorem tX12_tablesOf_4    : ∀ (n : Nat) (l1 : Int32) (l2 : Int32) (l3 : Int32) (M : j_M), J (ρ := Int32 × j_M) yX12_tablesOf cX12_tablesOf 4 (some .int) 3 64 j_ei 4 [(0, .inr (17, 0, 200)), (1, .inl (l1)), (2, .inl (l2)), (3, .inl (l3))] [] M (xX12_tablesOf_4  n l1 l2 l3 M) := by
  intro n
  induction n with
  | zero => intros; exact J_none
  | succ n ih =>
    intro l1 l2 l3 M
    rw [xX12_tablesOf_4.eq_2]
    refine K_iload_n (q := 5) 3 dX12_tablesOf_4 rfl rfl rfl ?_
    refine K_bipush (q := 7) (v := nI 6) dX12_tablesOf_5 rfl rfl ?_
    refine K_icmp_gt (q := 10) (tgt := 42) dX12_tablesOf_7 rfl ?_ rfl ?_
    · refine K_iload_n (q := 43) 2 dX12_tablesOf_42 rfl rfl rfl ?_
      exact J_iret dX12_tablesOf_43
    · refine K_iload_n (q := 11) 2 dX12_tablesOf_10 rfl rfl rfl ?_
      refine K_aload_n (q := 12) 0 dX12_tablesOf_11 rfl rfl rfl ?_
      refine K_iload_n (q := 13) 3 dX12_tablesOf_12 rfl rfl rfl ?_
      refine K_cvi (q := 16) [.inl (l3)] dX12_tablesOf_13 cb_X12_isNode cvRX12_119 rc_7 (show (17 : Nat) ≠ 0 by decide) rfl (Nat.le_of_ble_eq_true rfl) ⟨by decide, by decide⟩ (Nat.le_of_ble_eq_true rfl) rfl (tX12_isNode l3 M) rfl (fun v2 M1 => ?_)
      refine K_if_eq (q := 19) (tgt := 33) dX12_tablesOf_16 rfl ?_ rfl ?_
      · exact J_sub [0, 1, 3] (tX12_tablesOf_33 (xX12_tablesOf_4  n) ih l1 l3 l2 M1) rfl
      · refine K_aload_n (q := 20) 0 dX12_tablesOf_19 rfl rfl rfl ?_
        refine K_iload_n (q := 21) 3 dX12_tablesOf_20 rfl rfl rfl ?_
        refine K_iload_n (q := 22) 1 dX12_tablesOf_21 rfl rfl rfl ?_
        refine K_cvi (q := 25) [.inl (l3), .inl (l1)] dX12_tablesOf_22 cb_X12_turn cvRX12_112 rc_7 (show (17 : Nat) ≠ 0 by decide) rfl (Nat.le_of_ble_eq_true rfl) ⟨by decide, by decide⟩ (Nat.le_of_ble_eq_true rfl) rfl (tX12_turn l3 l1 M1) rfl (fun v4 M3 => ?_)
        refine K_iconst (q := 26) (v := -1) dX12_tablesOf_25 rfl rfl ?_
        refine K_icmp_eq (q := 29) (tgt := 33) dX12_tablesOf_26 rfl ?_ rfl ?_
        · exact J_sub [0, 1, 3] (tX12_tablesOf_33 (xX12_tablesOf_4  n) ih l1 l3 l2 M3) rfl
        · refine K_iconst (q := 30) (v := nI 1) dX12_tablesOf_29 rfl rfl ?_
          refine J_goto (tgt := 34) dX12_tablesOf_30 rfl ?_
          exact J_sub [0, 1, 3] (tX12_tablesOf_34 (xX12_tablesOf_4  n) ih l1 l3 l2 (nI 1) M3) rfl
def xX12_tablesOf  (l1 : Int32) (M : j_M) : Option (Int32 × j_M) := xX12_tablesOf_4 fu l1 (nI 0) (nI 0) M
set_option maxRecDepth 20000 in
set_option maxHeartbeats 2000000 in
theorem tX12_tablesOf  (l1 : Int32) (M : j_M) : J (ρ := Int32 × j_M) yX12_tablesOf cX12_tablesOf 4 (some .int) 3 64 j_ei 0 [(0, .inr (17, 0, 200)), (1, .inl (l1))] [] M (xX12_tablesOf  l1 M) := by
  unfold xX12_tablesOf
  refine K_iconst (q := 1) (v := nI 0) dX12_tablesOf_0 rfl rfl ?_
  refine K_istore_n (q := 2) (ll' := [(2, .inl ((nI 0))), (0, .inr (17, 0, 200)), (1, .inl (l1))]) dX12_tablesOf_1 rfl (by decide) rfl rfl ?_
  refine K_iconst (q := 3) (v := nI 0) dX12_tablesOf_2 rfl rfl ?_
  refine K_istore_n (q := 4) (ll' := [(3, .inl ((nI 0))), (2, .inl ((nI 0))), (0, .inr (17, 0, 200)), (1, .inl (l1))]) dX12_tablesOf_3 rfl (by decide) rfl rfl ?_
  exact J_sub [2, 3, 1, 0] (tX12_tablesOf_4 fu l1 (nI 0) (nI 0) M) rfl
theorem dX12_where_0 : decode cX12_where 0 = .ok (.iload_n 1, 1) := by decide +kernel
theorem dX12_where_1 : decode cX12_where 1 = .ok (.invokestatic 140, 3) := by decide +kernel
theorem dX12_where_4 : decode cX12_where 4 = .ok (.ifCond .ne 6, 3) := by decide +kernel
theorem dX12_where_7 : decode cX12_where 7 = .ok (.bipush (-2), 2) := by decide +kernel
theorem dX12_where_9 : decode cX12_where 9 = .ok (.ireturn, 1) := by decide +kernel
theorem dX12_where_10 : decode cX12_where 10 = .ok (.iload_n 2, 1) := by decide +kernel
theorem dX12_where_11 : decode cX12_where 11 = .ok (.tableswitch 85 0 6 #[41, 47, 54, 60, 66, 72, 79], 41) := by decide +kernel
theorem dX12_where_52 : decode cX12_where 52 = .ok (.aload_n 0, 1) := by decide +kernel
theorem dX12_where_53 : decode cX12_where 53 = .ok (.iload_n 1, 1) := by decide +kernel
theorem dX12_where_54 : decode cX12_where 54 = .ok (.invokevirtual 358, 3) := by decide +kernel
theorem dX12_where_57 : decode cX12_where 57 = .ok (.ireturn, 1) := by decide +kernel
theorem dX12_where_58 : decode cX12_where 58 = .ok (.aload_n 0, 1) := by decide +kernel
theorem dX12_where_59 : decode cX12_where 59 = .ok (.iload_n 1, 1) := by decide +kernel
theorem dX12_where_60 : decode cX12_where 60 = .ok (.iconst 0, 1) := by decide +kernel
theorem dX12_where_61 : decode cX12_where 61 = .ok (.invokevirtual 361, 3) := by decide +kernel
theorem dX12_where_64 : decode cX12_where 64 = .ok (.ireturn, 1) := by decide +kernel
theorem dX12_where_65 : decode cX12_where 65 = .ok (.aload_n 0, 1) := by decide +kernel
theorem dX12_where_66 : decode cX12_where 66 = .ok (.iload_n 1, 1) := by decide +kernel
theorem dX12_where_67 : decode cX12_where 67 = .ok (.invokevirtual 365, 3) := by decide +kernel
theorem dX12_where_70 : decode cX12_where 70 = .ok (.ireturn, 1) := by decide +kernel
theorem dX12_where_71 : decode cX12_where 71 = .ok (.aload_n 0, 1) := by decide +kernel
theorem dX12_where_72 : decode cX12_where 72 = .ok (.iload_n 1, 1) := by decide +kernel
theorem dX12_where_73 : decode cX12_where 73 = .ok (.invokevirtual 368, 3) := by decide +kernel
theorem dX12_where_76 : decode cX12_where 76 = .ok (.ireturn, 1) := by decide +kernel
theorem dX12_where_77 : decode cX12_where 77 = .ok (.aload_n 0, 1) := by decide +kernel
theorem dX12_where_78 : decode cX12_where 78 = .ok (.iload_n 1, 1) := by decide +kernel
theorem dX12_where_79 : decode cX12_where 79 = .ok (.invokevirtual 371, 3) := by decide +kernel
theorem dX12_where_82 : decode cX12_where 82 = .ok (.ireturn, 1) := by decide +kernel
theorem dX12_where_83 : decode cX12_where 83 = .ok (.aload_n 0, 1) := by decide +kernel
theorem dX12_where_84 : decode cX12_where 84 = .ok (.iload_n 1, 1) := by decide +kernel
theorem dX12_where_85 : decode cX12_where 85 = .ok (.iconst 1, 1) := by decide +kernel
theorem dX12_where_86 : decode cX12_where 86 = .ok (.invokevirtual 361, 3) := by decide +kernel
theorem dX12_where_89 : decode cX12_where 89 = .ok (.ireturn, 1) := by decide +kernel
theorem dX12_where_90 : decode cX12_where 90 = .ok (.aload_n 0, 1) := by decide +kernel
theorem dX12_where_91 : decode cX12_where 91 = .ok (.iload_n 1, 1) := by decide +kernel
theorem dX12_where_92 : decode cX12_where 92 = .ok (.invokevirtual 374, 3) := by decide +kernel
theorem dX12_where_95 : decode cX12_where 95 = .ok (.ireturn, 1) := by decide +kernel
theorem dX12_where_96 : decode cX12_where 96 = .ok (.bipush (-2), 2) := by decide +kernel
theorem dX12_where_98 : decode cX12_where 98 = .ok (.ireturn, 1) := by decide +kernel
def xX12_where  (l1 : Int32) (l2 : Int32) (M : j_M) : Option (Int32 × j_M) := obi (xX12_isLine l1 M) fun v2 M1 => (if v2 = (0 : Int32) then some ((-2 : Int32), M1) else osw l2 [((nI 0), obi (xX12_ownerAt l1 M1) fun v4 M3 => some (v4, M3)), ((nI 1), obi (xX12_setOf l1 (nI 0) M1) fun v6 M5 => some (v6, M5)), ((nI 2), obi (xX12_storer l1 M1) fun v8 M7 => some (v8, M7)), ((nI 3), obi (xX12_havers l1 M1) fun v10 M9 => some (v10, M9)), ((nI 4), obi (xX12_ofLineOnTheWay l1 M1) fun v12 M11 => some (v12, M11)), ((nI 5), obi (xX12_setOf l1 (nI 1) M1) fun v14 M13 => some (v14, M13)), ((nI 6), obi (xX12_tablesOf l1 M1) fun v16 M15 => some (v16, M15))] (some ((-2 : Int32), M1)))
set_option maxRecDepth 20000 in
set_option maxHeartbeats 2000000 in
theorem tX12_where  (l1 : Int32) (l2 : Int32) (M : j_M) : J (ρ := Int32 × j_M) yX12_where cX12_where 3 (some .int) 4 87 j_ei 0 [(0, .inr (17, 0, 200)), (1, .inl (l1)), (2, .inl (l2))] [] M (xX12_where  l1 l2 M) := by
  unfold xX12_where
  refine K_iload_n (q := 1) 1 dX12_where_0 rfl rfl rfl ?_
  refine K_csi (q := 4) [.inl (l1)] dX12_where_1 cb_X12_isLine cvRX12_140 rfl (Nat.le_of_ble_eq_true rfl) ⟨by decide, by decide⟩ (Nat.le_of_ble_eq_true rfl) rfl (tX12_isLine l1 M) rfl (fun v2 M1 => ?_)
  refine K_if_ne (q := 7) (tgt := 10) dX12_where_4 rfl ?_ rfl ?_
  · refine K_iload_n (q := 11) 2 dX12_where_10 rfl rfl rfl ?_
    refine K_tsw (dt := 96) [52, 58, 65, 71, 77, 83, 90] dX12_where_11 rfl rfl rfl rfl ⟨?_, ?_, ?_, ?_, ?_, ?_, ?_, trivial⟩ ?_
    · refine K_aload_n (q := 53) 0 dX12_where_52 rfl rfl rfl ?_
      refine K_iload_n (q := 54) 1 dX12_where_53 rfl rfl rfl ?_
      refine K_cvi (q := 57) [.inl (l1)] dX12_where_54 cb_X12_ownerAt cvRX12_358 rc_7 (show (17 : Nat) ≠ 0 by decide) rfl (Nat.le_of_ble_eq_true rfl) ⟨by decide, by decide⟩ (Nat.le_of_ble_eq_true rfl) rfl (tX12_ownerAt l1 M1) rfl (fun v4 M3 => ?_)
      exact J_iret dX12_where_57
    · refine K_aload_n (q := 59) 0 dX12_where_58 rfl rfl rfl ?_
      refine K_iload_n (q := 60) 1 dX12_where_59 rfl rfl rfl ?_
      refine K_iconst (q := 61) (v := nI 0) dX12_where_60 rfl rfl ?_
      refine K_cvi (q := 64) [.inl (l1), .inl ((nI 0))] dX12_where_61 cb_X12_setOf cvRX12_361 rc_7 (show (17 : Nat) ≠ 0 by decide) rfl (Nat.le_of_ble_eq_true rfl) ⟨by decide, by decide⟩ (Nat.le_of_ble_eq_true rfl) rfl (tX12_setOf l1 (nI 0) M1) rfl (fun v6 M5 => ?_)
      exact J_iret dX12_where_64
    · refine K_aload_n (q := 66) 0 dX12_where_65 rfl rfl rfl ?_
      refine K_iload_n (q := 67) 1 dX12_where_66 rfl rfl rfl ?_
      refine K_cvi (q := 70) [.inl (l1)] dX12_where_67 cb_X12_storer cvRX12_365 rc_7 (show (17 : Nat) ≠ 0 by decide) rfl (Nat.le_of_ble_eq_true rfl) ⟨by decide, by decide⟩ (Nat.le_of_ble_eq_true rfl) rfl (tX12_storer l1 M1) rfl (fun v8 M7 => ?_)
      exact J_iret dX12_where_70
    · refine K_aload_n (q := 72) 0 dX12_where_71 rfl rfl rfl ?_
      refine K_iload_n (q := 73) 1 dX12_where_72 rfl rfl rfl ?_
      refine K_cvi (q := 76) [.inl (l1)] dX12_where_73 cb_X12_havers cvRX12_368 rc_7 (show (17 : Nat) ≠ 0 by decide) rfl (Nat.le_of_ble_eq_true rfl) ⟨by decide, by decide⟩ (Nat.le_of_ble_eq_true rfl) rfl (tX12_havers l1 M1) rfl (fun v10 M9 => ?_)
      exact J_iret dX12_where_76
    · refine K_aload_n (q := 78) 0 dX12_where_77 rfl rfl rfl ?_
      refine K_iload_n (q := 79) 1 dX12_where_78 rfl rfl rfl ?_
      refine K_cvi (q := 82) [.inl (l1)] dX12_where_79 cb_X12_ofLineOnTheWay cvRX12_371 rc_7 (show (17 : Nat) ≠ 0 by decide) rfl (Nat.le_of_ble_eq_true rfl) ⟨by decide, by decide⟩ (Nat.le_of_ble_eq_true rfl) rfl (tX12_ofLineOnTheWay l1 M1) rfl (fun v12 M11 => ?_)
      exact J_iret dX12_where_82
    · refine K_aload_n (q := 84) 0 dX12_where_83 rfl rfl rfl ?_
      refine K_iload_n (q := 85) 1 dX12_where_84 rfl rfl rfl ?_
      refine K_iconst (q := 86) (v := nI 1) dX12_where_85 rfl rfl ?_
      refine K_cvi (q := 89) [.inl (l1), .inl ((nI 1))] dX12_where_86 cb_X12_setOf cvRX12_361 rc_7 (show (17 : Nat) ≠ 0 by decide) rfl (Nat.le_of_ble_eq_true rfl) ⟨by decide, by decide⟩ (Nat.le_of_ble_eq_true rfl) rfl (tX12_setOf l1 (nI 1) M1) rfl (fun v14 M13 => ?_)
      exact J_iret dX12_where_89
    · refine K_aload_n (q := 91) 0 dX12_where_90 rfl rfl rfl ?_
      refine K_iload_n (q := 92) 1 dX12_where_91 rfl rfl rfl ?_
      refine K_cvi (q := 95) [.inl (l1)] dX12_where_92 cb_X12_tablesOf cvRX12_374 rc_7 (show (17 : Nat) ≠ 0 by decide) rfl (Nat.le_of_ble_eq_true rfl) ⟨by decide, by decide⟩ (Nat.le_of_ble_eq_true rfl) rfl (tX12_tablesOf l1 M1) rfl (fun v16 M15 => ?_)
      exact J_iret dX12_where_95
    · refine K_bipush (q := 98) (v := -2) dX12_where_96 rfl rfl ?_
      exact J_iret dX12_where_98
  · refine K_bipush (q := 9) (v := -2) dX12_where_7 rfl rfl ?_
    exact J_iret dX12_where_9
theorem dX12_worth_0 : decode cX12_worth 0 = .ok (.iload_n 1, 1) := by decide +kernel
theorem dX12_worth_1 : decode cX12_worth 1 = .ok (.invokestatic 140, 3) := by decide +kernel
theorem dX12_worth_4 : decode cX12_worth 4 = .ok (.ifCond .ne 5, 3) := by decide +kernel
theorem dX12_worth_7 : decode cX12_worth 7 = .ok (.iconst (-1), 1) := by decide +kernel
theorem dX12_worth_8 : decode cX12_worth 8 = .ok (.ireturn, 1) := by decide +kernel
theorem dX12_worth_9 : decode cX12_worth 9 = .ok (.iconst 0, 1) := by decide +kernel
theorem dX12_worth_10 : decode cX12_worth 10 = .ok (.istore_n 2, 1) := by decide +kernel
theorem dX12_worth_11 : decode cX12_worth 11 = .ok (.iload_n 2, 1) := by decide +kernel
theorem dX12_worth_12 : decode cX12_worth 12 = .ok (.bipush 6, 2) := by decide +kernel
theorem dX12_worth_14 : decode cX12_worth 14 = .ok (.if_icmp .gt 41, 3) := by decide +kernel
theorem dX12_worth_17 : decode cX12_worth 17 = .ok (.aload_n 0, 1) := by decide +kernel
theorem dX12_worth_18 : decode cX12_worth 18 = .ok (.getfield 9, 3) := by decide +kernel
theorem dX12_worth_21 : decode cX12_worth 21 = .ok (.bipush 70, 2) := by decide +kernel
theorem dX12_worth_23 : decode cX12_worth 23 = .ok (.iload_n 2, 1) := by decide +kernel
theorem dX12_worth_24 : decode cX12_worth 24 = .ok (.iload_n 1, 1) := by decide +kernel
theorem dX12_worth_25 : decode cX12_worth 25 = .ok (.invokestatic 61, 3) := by decide +kernel
theorem dX12_worth_28 : decode cX12_worth 28 = .ok (.iadd, 1) := by decide +kernel
theorem dX12_worth_29 : decode cX12_worth 29 = .ok (.iaload, 1) := by decide +kernel
theorem dX12_worth_30 : decode cX12_worth 30 = .ok (.iconst 1, 1) := by decide +kernel
theorem dX12_worth_31 : decode cX12_worth 31 = .ok (.if_icmp .ne 18, 3) := by decide +kernel
theorem dX12_worth_34 : decode cX12_worth 34 = .ok (.aload_n 0, 1) := by decide +kernel
theorem dX12_worth_35 : decode cX12_worth 35 = .ok (.getfield 9, 3) := by decide +kernel
theorem dX12_worth_38 : decode cX12_worth 38 = .ok (.sipush 182, 3) := by decide +kernel
theorem dX12_worth_41 : decode cX12_worth 41 = .ok (.iload_n 2, 1) := by decide +kernel
theorem dX12_worth_42 : decode cX12_worth 42 = .ok (.iload_n 1, 1) := by decide +kernel
theorem dX12_worth_43 : decode cX12_worth 43 = .ok (.invokestatic 61, 3) := by decide +kernel
theorem dX12_worth_46 : decode cX12_worth 46 = .ok (.iadd, 1) := by decide +kernel
theorem dX12_worth_47 : decode cX12_worth 47 = .ok (.iaload, 1) := by decide +kernel
theorem dX12_worth_48 : decode cX12_worth 48 = .ok (.ireturn, 1) := by decide +kernel
theorem dX12_worth_49 : decode cX12_worth 49 = .ok (.iinc 2 1, 3) := by decide +kernel
theorem dX12_worth_52 : decode cX12_worth 52 = .ok (.goto (-41), 3) := by decide +kernel
theorem dX12_worth_55 : decode cX12_worth 55 = .ok (.iconst 0, 1) := by decide +kernel
theorem dX12_worth_56 : decode cX12_worth 56 = .ok (.istore_n 2, 1) := by decide +kernel
theorem dX12_worth_57 : decode cX12_worth 57 = .ok (.iload_n 2, 1) := by decide +kernel
theorem dX12_worth_58 : decode cX12_worth 58 = .ok (.aload_n 0, 1) := by decide +kernel
theorem dX12_worth_59 : decode cX12_worth 59 = .ok (.getfield 9, 3) := by decide +kernel
theorem dX12_worth_62 : decode cX12_worth 62 = .ok (.bipush 7, 2) := by decide +kernel
theorem dX12_worth_64 : decode cX12_worth 64 = .ok (.iaload, 1) := by decide +kernel
theorem dX12_worth_65 : decode cX12_worth 65 = .ok (.if_icmp .ge 47, 3) := by decide +kernel
theorem dX12_worth_68 : decode cX12_worth 68 = .ok (.aload_n 0, 1) := by decide +kernel
theorem dX12_worth_69 : decode cX12_worth 69 = .ok (.iload_n 2, 1) := by decide +kernel
theorem dX12_worth_70 : decode cX12_worth 70 = .ok (.iconst 2, 1) := by decide +kernel
theorem dX12_worth_71 : decode cX12_worth 71 = .ok (.invokevirtual 79, 3) := by decide +kernel
theorem dX12_worth_74 : decode cX12_worth 74 = .ok (.iconst 3, 1) := by decide +kernel
theorem dX12_worth_75 : decode cX12_worth 75 = .ok (.if_icmp .ne 31, 3) := by decide +kernel
theorem dX12_worth_78 : decode cX12_worth 78 = .ok (.aload_n 0, 1) := by decide +kernel
theorem dX12_worth_79 : decode cX12_worth 79 = .ok (.iload_n 2, 1) := by decide +kernel
theorem dX12_worth_80 : decode cX12_worth 80 = .ok (.iconst 3, 1) := by decide +kernel
theorem dX12_worth_81 : decode cX12_worth 81 = .ok (.invokevirtual 79, 3) := by decide +kernel
theorem dX12_worth_84 : decode cX12_worth 84 = .ok (.iload_n 1, 1) := by decide +kernel
theorem dX12_worth_85 : decode cX12_worth 85 = .ok (.if_icmp .ne 21, 3) := by decide +kernel
theorem dX12_worth_88 : decode cX12_worth 88 = .ok (.aload_n 0, 1) := by decide +kernel
theorem dX12_worth_89 : decode cX12_worth 89 = .ok (.iload_n 2, 1) := by decide +kernel
theorem dX12_worth_90 : decode cX12_worth 90 = .ok (.iconst 5, 1) := by decide +kernel
theorem dX12_worth_91 : decode cX12_worth 91 = .ok (.invokevirtual 79, 3) := by decide +kernel
theorem dX12_worth_94 : decode cX12_worth 94 = .ok (.iconst 1, 1) := by decide +kernel
theorem dX12_worth_95 : decode cX12_worth 95 = .ok (.if_icmp .ne 11, 3) := by decide +kernel
theorem dX12_worth_98 : decode cX12_worth 98 = .ok (.aload_n 0, 1) := by decide +kernel
theorem dX12_worth_99 : decode cX12_worth 99 = .ok (.iload_n 2, 1) := by decide +kernel
theorem dX12_worth_100 : decode cX12_worth 100 = .ok (.bipush 6, 2) := by decide +kernel
theorem dX12_worth_102 : decode cX12_worth 102 = .ok (.invokevirtual 79, 3) := by decide +kernel
theorem dX12_worth_105 : decode cX12_worth 105 = .ok (.ireturn, 1) := by decide +kernel
theorem dX12_worth_106 : decode cX12_worth 106 = .ok (.iinc 2 1, 3) := by decide +kernel
theorem dX12_worth_109 : decode cX12_worth 109 = .ok (.goto (-52), 3) := by decide +kernel
theorem dX12_worth_112 : decode cX12_worth 112 = .ok (.iconst (-1), 1) := by decide +kernel
theorem dX12_worth_113 : decode cX12_worth 113 = .ok (.ireturn, 1) := by decide +kernel
def xX12_worth_57   : Nat → Int32 → Int32 → j_M → Option (Int32 × j_M)
  | 0, _, _, _ => none
  | n + 1, l1, l2, M => gd (nI 7) 7460 (oli (M 201 (ix (nI 7))) fun v1 => (if v1 ≤ l2 then some ((-1 : Int32), M) else obi (xX12_of l2 (nI 2) M) fun v3 M2 => (if v3 = (nI 3) then obi (xX12_of l2 (nI 3) M2) fun v5 M4 => (if v5 = l1 then obi (xX12_of l2 (nI 5) M4) fun v7 M6 => (if v7 = (nI 1) then obi (xX12_of l2 (nI 6) M6) fun v9 M8 => some (v9, M8) else xX12_worth_57  n l1 (l2 + (nI 1)) M6) else xX12_worth_57  n l1 (l2 + (nI 1)) M4) else xX12_worth_57  n l1 (l2 + (nI 1)) M2)))
set_option maxRecDepth 20000 in
set_option maxHeartbeats 2000000 in
theorem tX12_worth_57    : ∀ (n : Nat) (l1 : Int32) (l2 : Int32) (M : j_M), J (ρ := Int32 × j_M) yX12_worth cX12_worth 3 (some .int) 2 42 j_ei 57 [(0, .inr (17, 0, 200)), (1, .inl (l1)), (2, .inl (l2))] [] M (xX12_worth_57  n l1 l2 M) := by
  intro n
  induction n with
  | zero => intros; exact J_none
  | succ n ih =>
    intro l1 l2 M
    rw [xX12_worth_57.eq_2]
    refine K_iload_n (q := 58) 2 dX12_worth_57 rfl rfl rfl ?_
    refine K_aload_n (q := 59) 0 dX12_worth_58 rfl rfl rfl ?_
    refine K_getR (q := 62) (ci := 7) (a2 := 201) 0 dX12_worth_59 fRX12_9 rfl rfl (by decide) rfl rfl ?_
    refine K_bipush (q := 64) (v := nI 7) dX12_worth_62 rfl rfl ?_
    refine K_iald (q := 65) dX12_worth_64 rfl (fun v1 => ?_)
    refine K_icmp_ge (q := 68) (tgt := 112) dX12_worth_65 rfl ?_ rfl ?_
    · refine K_iconst (q := 113) (v := -1) dX12_worth_112 rfl rfl ?_
      exact J_iret dX12_worth_113
    · refine K_aload_n (q := 69) 0 dX12_worth_68 rfl rfl rfl ?_
      refine K_iload_n (q := 70) 2 dX12_worth_69 rfl rfl rfl ?_
      refine K_iconst (q := 71) (v := nI 2) dX12_worth_70 rfl rfl ?_
      refine K_cvi (q := 74) [.inl (l2), .inl ((nI 2))] dX12_worth_71 cb_X12_of cvRX12_79 rc_7 (show (17 : Nat) ≠ 0 by decide) rfl (Nat.le_of_ble_eq_true rfl) ⟨by decide, by decide⟩ (Nat.le_of_ble_eq_true rfl) rfl (tX12_of l2 (nI 2) M) rfl (fun v3 M2 => ?_)
      refine K_iconst (q := 75) (v := nI 3) dX12_worth_74 rfl rfl ?_
      refine K_icmp_ne (q := 78) (tgt := 106) dX12_worth_75 rfl ?_ rfl ?_
      · refine K_iinc (q := 109) (v := l2 + (nI 1)) (ll' := [(2, .inl (l2 + (nI 1))), (0, .inr (17, 0, 200)), (1, .inl (l1))]) 2 dX12_worth_106 rfl rfl (by decide) rfl rfl ?_
        refine J_goto (tgt := 57) dX12_worth_109 rfl ?_
        exact J_sub [1, 2, 0] (ih l1 (l2 + (nI 1)) M2) rfl
      · refine K_aload_n (q := 79) 0 dX12_worth_78 rfl rfl rfl ?_
        refine K_iload_n (q := 80) 2 dX12_worth_79 rfl rfl rfl ?_
        refine K_iconst (q := 81) (v := nI 3) dX12_worth_80 rfl rfl ?_
        refine K_cvi (q := 84) [.inl (l2), .inl ((nI 3))] dX12_worth_81 cb_X12_of cvRX12_79 rc_7 (show (17 : Nat) ≠ 0 by decide) rfl (Nat.le_of_ble_eq_true rfl) ⟨by decide, by decide⟩ (Nat.le_of_ble_eq_true rfl) rfl (tX12_of l2 (nI 3) M2) rfl (fun v5 M4 => ?_)
        refine K_iload_n (q := 85) 1 dX12_worth_84 rfl rfl rfl ?_
        refine K_icmp_ne (q := 88) (tgt := 106) dX12_worth_85 rfl ?_ rfl ?_
        · refine K_iinc (q := 109) (v := l2 + (nI 1)) (ll' := [(2, .inl (l2 + (nI 1))), (0, .inr (17, 0, 200)), (1, .inl (l1))]) 2 dX12_worth_106 rfl rfl (by decide) rfl rfl ?_
          refine J_goto (tgt := 57) dX12_worth_109 rfl ?_
          exact J_sub [1, 2, 0] (ih l1 (l2 + (nI 1)) M4) rfl
        · refine K_aload_n (q := 89) 0 dX12_worth_88 rfl rfl rfl ?_
          refine K_iload_n (q := 90) 2 dX12_worth_89 rfl rfl rfl ?_
          refine K_iconst (q := 91) (v := nI 5) dX12_worth_90 rfl rfl ?_
          refine K_cvi (q := 94) [.inl (l2), .inl ((nI 5))] dX12_worth_91 cb_X12_of cvRX12_79 rc_7 (show (17 : Nat) ≠ 0 by decide) rfl (Nat.le_of_ble_eq_true rfl) ⟨by decide, by decide⟩ (Nat.le_of_ble_eq_true rfl) rfl (tX12_of l2 (nI 5) M4) rfl (fun v7 M6 => ?_)
          refine K_iconst (q := 95) (v := nI 1) dX12_worth_94 rfl rfl ?_
          refine K_icmp_ne (q := 98) (tgt := 106) dX12_worth_95 rfl ?_ rfl ?_
          · refine K_iinc (q := 109) (v := l2 + (nI 1)) (ll' := [(2, .inl (l2 + (nI 1))), (0, .inr (17, 0, 200)), (1, .inl (l1))]) 2 dX12_worth_106 rfl rfl (by decide) rfl rfl ?_
            refine J_goto (tgt := 57) dX12_worth_109 rfl ?_
            exact J_sub [1, 2, 0] (ih l1 (l2 + (nI 1)) M6) rfl
          · refine K_aload_n (q := 99) 0 dX12_worth_98 rfl rfl rfl ?_
            refine K_iload_n (q := 100) 2 dX12_worth_99 rfl rfl rfl ?_
            refine K_bipush (q := 102) (v := nI 6) dX12_worth_100 rfl rfl ?_
            refine K_cvi (q := 105) [.inl (l2), .inl ((nI 6))] dX12_worth_102 cb_X12_of cvRX12_79 rc_7 (show (17 : Nat) ≠ 0 by decide) rfl (Nat.le_of_ble_eq_true rfl) ⟨by decide, by decide⟩ (Nat.le_of_ble_eq_true rfl) rfl (tX12_of l2 (nI 6) M6) rfl (fun v9 M8 => ?_)
            exact J_iret dX12_worth_105
def xX12_worth_11   : Nat → Int32 → Int32 → j_M → Option (Int32 × j_M)
  | 0, _, _, _ => none
  | n + 1, l1, l2, M => (if (nI 6) < l2 then xX12_worth_57 fu l1 (nI 0) M else obi (xX12_place l2 l1 M) fun v2 M1 => gd ((nI 70) + v2) 7460 (oli (M1 201 (ix ((nI 70) + v2))) fun v3 => (if v3 = (nI 1) then obi (xX12_place l2 l1 M1) fun v5 M4 => gd ((nI 182) + v5) 7460 (oli (M4 201 (ix ((nI 182) + v5))) fun v6 => some (v6, M4)) else xX12_worth_11  n l1 (l2 + (nI 1)) M1)))
set_option maxRecDepth 20000 in
set_option maxHeartbeats 2000000 in
theorem tX12_worth_11    : ∀ (n : Nat) (l1 : Int32) (l2 : Int32) (M : j_M), J (ρ := Int32 × j_M) yX12_worth cX12_worth 3 (some .int) 2 42 j_ei 11 [(0, .inr (17, 0, 200)), (1, .inl (l1)), (2, .inl (l2))] [] M (xX12_worth_11  n l1 l2 M) := by
  intro n
  induction n with
  | zero => intros; exact J_none
  | succ n ih =>
    intro l1 l2 M
    rw [xX12_worth_11.eq_2]
    refine K_iload_n (q := 12) 2 dX12_worth_11 rfl rfl rfl ?_
    refine K_bipush (q := 14) (v := nI 6) dX12_worth_12 rfl rfl ?_
    refine K_icmp_gt (q := 17) (tgt := 55) dX12_worth_14 rfl ?_ rfl ?_
    · refine K_iconst (q := 56) (v := nI 0) dX12_worth_55 rfl rfl ?_
      refine K_istore_n (q := 57) (ll' := [(2, .inl ((nI 0))), (0, .inr (17, 0, 200)), (1, .inl (l1))]) dX12_worth_56 rfl (by decide) rfl rfl ?_
      exact J_sub [1, 2, 0] (tX12_worth_57 fu l1 (nI 0) M) rfl
    · refine K_aload_n (q := 18) 0 dX12_worth_17 rfl rfl rfl ?_
      refine K_getR (q := 21) (ci := 7) (a2 := 201) 0 dX12_worth_18 fRX12_9 rfl rfl (by decide) rfl rfl ?_
      refine K_bipush (q := 23) (v := nI 70) dX12_worth_21 rfl rfl ?_
      refine K_iload_n (q := 24) 2 dX12_worth_23 rfl rfl rfl ?_
      refine K_iload_n (q := 25) 1 dX12_worth_24 rfl rfl rfl ?_
      refine K_csi (q := 28) [.inl (l2), .inl (l1)] dX12_worth_25 cb_X12_place cvRX12_61 rfl (Nat.le_of_ble_eq_true rfl) ⟨by decide, by decide⟩ (Nat.le_of_ble_eq_true rfl) rfl (tX12_place l2 l1 M) rfl (fun v2 M1 => ?_)
      refine K_iadd (q := 29) dX12_worth_28 rfl ?_
      refine K_iald (q := 30) dX12_worth_29 rfl (fun v3 => ?_)
      refine K_iconst (q := 31) (v := nI 1) dX12_worth_30 rfl rfl ?_
      refine K_icmp_ne (q := 34) (tgt := 49) dX12_worth_31 rfl ?_ rfl ?_
      · refine K_iinc (q := 52) (v := l2 + (nI 1)) (ll' := [(2, .inl (l2 + (nI 1))), (0, .inr (17, 0, 200)), (1, .inl (l1))]) 2 dX12_worth_49 rfl rfl (by decide) rfl rfl ?_
        refine J_goto (tgt := 11) dX12_worth_52 rfl ?_
        exact J_sub [1, 2, 0] (ih l1 (l2 + (nI 1)) M1) rfl
      · refine K_aload_n (q := 35) 0 dX12_worth_34 rfl rfl rfl ?_
        refine K_getR (q := 38) (ci := 7) (a2 := 201) 0 dX12_worth_35 fRX12_9 rfl rfl (by decide) rfl rfl ?_
        refine K_sipush (q := 41) (v := nI 182) dX12_worth_38 rfl rfl ?_
        refine K_iload_n (q := 42) 2 dX12_worth_41 rfl rfl rfl ?_
        refine K_iload_n (q := 43) 1 dX12_worth_42 rfl rfl rfl ?_
        refine K_csi (q := 46) [.inl (l2), .inl (l1)] dX12_worth_43 cb_X12_place cvRX12_61 rfl (Nat.le_of_ble_eq_true rfl) ⟨by decide, by decide⟩ (Nat.le_of_ble_eq_true rfl) rfl (tX12_place l2 l1 M1) rfl (fun v5 M4 => ?_)
        refine K_iadd (q := 47) dX12_worth_46 rfl ?_
        refine K_iald (q := 48) dX12_worth_47 rfl (fun v6 => ?_)
        exact J_iret dX12_worth_48
def xX12_worth  (l1 : Int32) (M : j_M) : Option (Int32 × j_M) := obi (xX12_isLine l1 M) fun v2 M1 => (if v2 = (0 : Int32) then some ((-1 : Int32), M1) else xX12_worth_11 fu l1 (nI 0) M1)
set_option maxRecDepth 20000 in
set_option maxHeartbeats 2000000 in
theorem tX12_worth  (l1 : Int32) (M : j_M) : J (ρ := Int32 × j_M) yX12_worth cX12_worth 3 (some .int) 2 42 j_ei 0 [(0, .inr (17, 0, 200)), (1, .inl (l1))] [] M (xX12_worth  l1 M) := by
  unfold xX12_worth
  refine K_iload_n (q := 1) 1 dX12_worth_0 rfl rfl rfl ?_
  refine K_csi (q := 4) [.inl (l1)] dX12_worth_1 cb_X12_isLine cvRX12_140 rfl (Nat.le_of_ble_eq_true rfl) ⟨by decide, by decide⟩ (Nat.le_of_ble_eq_true rfl) rfl (tX12_isLine l1 M) rfl (fun v2 M1 => ?_)
  refine K_if_ne (q := 7) (tgt := 9) dX12_worth_4 rfl ?_ rfl ?_
  · refine K_iconst (q := 10) (v := nI 0) dX12_worth_9 rfl rfl ?_
    refine K_istore_n (q := 11) (ll' := [(2, .inl ((nI 0))), (0, .inr (17, 0, 200)), (1, .inl (l1))]) dX12_worth_10 rfl (by decide) rfl rfl ?_
    exact J_sub [1, 2, 0] (tX12_worth_11 fu l1 (nI 0) M1) rfl
  · refine K_iconst (q := 8) (v := -1) dX12_worth_7 rfl rfl ?_
    exact J_iret dX12_worth_8
