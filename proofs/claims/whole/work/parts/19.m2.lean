theorem fRX12_19 : j_F RX12 19 7 4 := ⟨RX12, TX12, 32, rfl, by decide, ws_in7, j_in 1181 (by decide +kernel) (by decide +kernel)⟩
theorem cb_X12_eldest : j_CB yX12_eldest cX12_eldest 3 (some .int) 2 := ⟨by decide +kernel, j_in 1412 (by decide +kernel) (by decide +kernel), j_in 114 (by decide +kernel) (by decide +kernel), by decide +kernel, by decide +kernel, by decide +kernel⟩
theorem cvRX12_159 : j_CV RX12 159 yX12_eldest := ⟨Or.inl (j_in 1409 (by decide +kernel) (by decide +kernel)), j_in 1411 (by decide +kernel) (by decide +kernel), j_in 48 (by decide +kernel) (by decide +kernel)⟩
theorem cb_X12_ends : j_CB yX12_ends cX12_ends 6 none 1 := ⟨by decide +kernel, j_in 1416 (by decide +kernel) (by decide +kernel), j_in 114 (by decide +kernel) (by decide +kernel), by decide +kernel, by decide +kernel, by decide +kernel⟩
theorem cvRX12_162 : j_CV RX12 162 yX12_ends := ⟨Or.inl (j_in 1413 (by decide +kernel) (by decide +kernel)), j_in 1415 (by decide +kernel) (by decide +kernel), j_in 49 (by decide +kernel) (by decide +kernel)⟩
theorem cb_X12_answers : j_CB yX12_answers cX12_answers 6 none 2 := ⟨by decide +kernel, j_in 1400 (by decide +kernel) (by decide +kernel), j_in 114 (by decide +kernel) (by decide +kernel), by decide +kernel, by decide +kernel, by decide +kernel⟩
theorem cvRX12_165 : j_CV RX12 165 yX12_answers := ⟨Or.inl (j_in 1397 (by decide +kernel) (by decide +kernel)), j_in 1399 (by decide +kernel) (by decide +kernel), j_in 45 (by decide +kernel) (by decide +kernel)⟩
theorem cb_X12_comes : j_CB yX12_comes cX12_comes 4 none 1 := ⟨by decide +kernel, j_in 1408 (by decide +kernel) (by decide +kernel), j_in 114 (by decide +kernel) (by decide +kernel), by decide +kernel, by decide +kernel, by decide +kernel⟩
theorem cvRX12_169 : j_CV RX12 169 yX12_comes := ⟨Or.inl (j_in 1405 (by decide +kernel) (by decide +kernel)), j_in 1407 (by decide +kernel) (by decide +kernel), j_in 47 (by decide +kernel) (by decide +kernel)⟩
theorem cb_X12_isAsked : j_CB yX12_isAsked cX12_isAsked 3 none 1 := ⟨by decide +kernel, j_in 1432 (by decide +kernel) (by decide +kernel), j_in 114 (by decide +kernel) (by decide +kernel), by decide +kernel, by decide +kernel, by decide +kernel⟩
theorem cvRX12_172 : j_CV RX12 172 yX12_isAsked := ⟨Or.inl (j_in 1429 (by decide +kernel) (by decide +kernel)), j_in 1431 (by decide +kernel) (by decide +kernel), j_in 53 (by decide +kernel) (by decide +kernel)⟩
theorem cb_X12_isRecalled : j_CB yX12_isRecalled cX12_isRecalled 3 none 1 := ⟨by decide +kernel, j_in 1436 (by decide +kernel) (by decide +kernel), j_in 114 (by decide +kernel) (by decide +kernel), by decide +kernel, by decide +kernel, by decide +kernel⟩
theorem cvRX12_175 : j_CV RX12 175 yX12_isRecalled := ⟨Or.inl (j_in 1433 (by decide +kernel) (by decide +kernel)), j_in 1435 (by decide +kernel) (by decide +kernel), j_in 54 (by decide +kernel) (by decide +kernel)⟩
theorem cb_X12_mustWait : j_CB yX12_mustWait cX12_mustWait 3 (some .boolean) 1 := ⟨by decide +kernel, j_in 1452 (by decide +kernel) (by decide +kernel), j_in 114 (by decide +kernel) (by decide +kernel), by decide +kernel, by decide +kernel, by decide +kernel⟩
theorem cvRX12_182 : j_CV RX12 182 yX12_mustWait := ⟨Or.inl (j_in 1449 (by decide +kernel) (by decide +kernel)), j_in 1451 (by decide +kernel) (by decide +kernel), j_in 57 (by decide +kernel) (by decide +kernel)⟩
theorem cb_X12_asksForGood : j_CB yX12_asksForGood cX12_asksForGood 4 none 1 := ⟨by decide +kernel, j_in 1456 (by decide +kernel) (by decide +kernel), j_in 114 (by decide +kernel) (by decide +kernel), by decide +kernel, by decide +kernel, by decide +kernel⟩
theorem cvRX12_185 : j_CV RX12 185 yX12_asksForGood := ⟨Or.inl (j_in 1453 (by decide +kernel) (by decide +kernel)), j_in 1455 (by decide +kernel) (by decide +kernel), j_in 58 (by decide +kernel) (by decide +kernel)⟩
theorem cb_X12_ticksOf : j_CB yX12_ticksOf cX12_ticksOf 3 none 1 := ⟨by decide +kernel, j_in 1448 (by decide +kernel) (by decide +kernel), j_in 114 (by decide +kernel) (by decide +kernel), by decide +kernel, by decide +kernel, by decide +kernel⟩
theorem cvRX12_188 : j_CV RX12 188 yX12_ticksOf := ⟨Or.inl (j_in 1445 (by decide +kernel) (by decide +kernel)), j_in 1447 (by decide +kernel) (by decide +kernel), j_in 56 (by decide +kernel) (by decide +kernel)⟩
theorem cb_X12_delivers : j_CB yX12_delivers cX12_delivers 3 (some .int) 1 := ⟨by decide +kernel, j_in 1396 (by decide +kernel) (by decide +kernel), j_in 114 (by decide +kernel) (by decide +kernel), by decide +kernel, by decide +kernel, by decide +kernel⟩
theorem cvRX12_178 : j_CV RX12 178 yX12_delivers := ⟨Or.inl (j_in 1393 (by decide +kernel) (by decide +kernel)), j_in 1395 (by decide +kernel) (by decide +kernel), j_in 44 (by decide +kernel) (by decide +kernel)⟩
theorem cb_X12_ticksOnce : j_CB yX12_ticksOnce cX12_ticksOnce 2 none 0 := ⟨by decide +kernel, j_in 1444 (by decide +kernel) (by decide +kernel), j_in 114 (by decide +kernel) (by decide +kernel), by decide +kernel, by decide +kernel, by decide +kernel⟩
theorem cvRX12_191 : j_CV RX12 191 yX12_ticksOnce := ⟨Or.inl (j_in 1441 (by decide +kernel) (by decide +kernel)), j_in 1443 (by decide +kernel) (by decide +kernel), j_in 55 (by decide +kernel) (by decide +kernel)⟩
theorem cb_X12_calmOnce : j_CB yX12_calmOnce cX12_calmOnce 2 (some .int) 0 := ⟨by decide +kernel, j_in 1464 (by decide +kernel) (by decide +kernel), j_in 114 (by decide +kernel) (by decide +kernel), by decide +kernel, by decide +kernel, by decide +kernel⟩
theorem cvRX12_194 : j_CV RX12 194 yX12_calmOnce := ⟨Or.inl (j_in 1461 (by decide +kernel) (by decide +kernel)), j_in 1463 (by decide +kernel) (by decide +kernel), j_in 59 (by decide +kernel) (by decide +kernel)⟩
theorem fRX12_197 : j_F RX12 197 7 11 := ⟨RX12, TX12, 32, rfl, by decide, ws_in7, j_in 1188 (by decide +kernel) (by decide +kernel)⟩
theorem fp_7_11 : j_FP 7 11 .int := ⟨RX12, TX12, 32, tyX12, rfl, tyX12_ok, nmX12, rfl, by decide +kernel⟩
theorem fRX12_22 : j_F RX12 22 7 5 := ⟨RX12, TX12, 32, rfl, by decide, ws_in7, j_in 1182 (by decide +kernel) (by decide +kernel)⟩
theorem cb_X12_tapes : j_CB yX12_tapes cX12_tapes 3 none 1 := ⟨by decide +kernel, j_in 1472 (by decide +kernel) (by decide +kernel), j_in 114 (by decide +kernel) (by decide +kernel), by decide +kernel, by decide +kernel, by decide +kernel⟩
theorem cvRX12_200 : j_CV RX12 200 yX12_tapes := ⟨Or.inl (j_in 1469 (by decide +kernel) (by decide +kernel)), j_in 1471 (by decide +kernel) (by decide +kernel), j_in 60 (by decide +kernel) (by decide +kernel)⟩
theorem fRX12_301 : j_F RX12 301 7 18 := ⟨RX12, TX12, 32, rfl, by decide, ws_in7, j_in 1195 (by decide +kernel) (by decide +kernel)⟩
theorem fp_7_18 : j_FP 7 18 .int := ⟨RX12, TX12, 32, tyX12, rfl, tyX12_ok, nmX12, rfl, by decide +kernel⟩
theorem fRX12_283 : j_F RX12 283 7 17 := ⟨RX12, TX12, 32, rfl, by decide, ws_in7, j_in 1194 (by decide +kernel) (by decide +kernel)⟩
theorem fp_7_17 : j_FP 7 17 .int := ⟨RX12, TX12, 32, tyX12, rfl, tyX12_ok, nmX12, rfl, by decide +kernel⟩
theorem fRX12_280 : j_F RX12 280 7 16 := ⟨RX12, TX12, 32, rfl, by decide, ws_in7, j_in 1193 (by decide +kernel) (by decide +kernel)⟩
theorem fRX12_26 : j_F RX12 26 7 6 := ⟨RX12, TX12, 32, rfl, by decide, ws_in7, j_in 1183 (by decide +kernel) (by decide +kernel)⟩
theorem fRX12_35 : j_F RX12 35 7 9 := ⟨RX12, TX12, 32, rfl, by decide, ws_in7, j_in 1186 (by decide +kernel) (by decide +kernel)⟩
theorem fRX12_38 : j_F RX12 38 7 10 := ⟨RX12, TX12, 32, rfl, by decide, ws_in7, j_in 1187 (by decide +kernel) (by decide +kernel)⟩
theorem fRX12_268 : j_F RX12 268 7 20 := ⟨RX12, TX12, 32, rfl, by decide, ws_in7, j_in 1197 (by decide +kernel) (by decide +kernel)⟩
theorem fp_7_20 : j_FP 7 20 .int := ⟨RX12, TX12, 32, tyX12, rfl, tyX12_ok, nmX12, rfl, by decide +kernel⟩
theorem fRX12_271 : j_F RX12 271 7 21 := ⟨RX12, TX12, 32, rfl, by decide, ws_in7, j_in 1198 (by decide +kernel) (by decide +kernel)⟩
theorem fp_7_21 : j_FP 7 21 .int := ⟨RX12, TX12, 32, tyX12, rfl, tyX12_ok, nmX12, rfl, by decide +kernel⟩
theorem fRX12_32 : j_F RX12 32 7 8 := ⟨RX12, TX12, 32, rfl, by decide, ws_in7, j_in 1185 (by decide +kernel) (by decide +kernel)⟩
theorem fRX12_310 : j_F RX12 310 7 19 := ⟨RX12, TX12, 32, rfl, by decide, ws_in7, j_in 1196 (by decide +kernel) (by decide +kernel)⟩
theorem fp_7_19 : j_FP 7 19 .int := ⟨RX12, TX12, 32, tyX12, rfl, tyX12_ok, nmX12, rfl, by decide +kernel⟩
theorem fRX12_41 : j_F RX12 41 7 22 := ⟨RX12, TX12, 32, rfl, by decide, ws_in7, j_in 1199 (by decide +kernel) (by decide +kernel)⟩
theorem fp_7_22 : j_FP 7 22 .int := ⟨RX12, TX12, 32, tyX12, rfl, tyX12_ok, nmX12, rfl, by decide +kernel⟩
theorem fRX12_206 : j_F RX12 206 7 14 := ⟨RX12, TX12, 32, rfl, by decide, ws_in7, j_in 1191 (by decide +kernel) (by decide +kernel)⟩
theorem fRX12_203 : j_F RX12 203 7 12 := ⟨RX12, TX12, 32, rfl, by decide, ws_in7, j_in 1189 (by decide +kernel) (by decide +kernel)⟩
theorem cvRX12_209 : j_CV RX12 209 yJ0_length_8abf5 := ⟨Or.inl (j_in 1535 (by decide +kernel) (by decide +kernel)), j_in 1536 (by decide +kernel) (by decide +kernel), j_in 1537 (by decide +kernel) (by decide +kernel)⟩
theorem cvRX12_214 : j_CV RX12 214 yJ0_charAt_5068e := ⟨Or.inl (j_in 1545 (by decide +kernel) (by decide +kernel)), j_in 1546 (by decide +kernel) (by decide +kernel), j_in 1547 (by decide +kernel) (by decide +kernel)⟩
theorem cb_X12_is : j_CB yX12_is cX12_is 3 (some .boolean) 1 := ⟨by decide +kernel, j_in 1534 (by decide +kernel) (by decide +kernel), j_in 114 (by decide +kernel) (by decide +kernel), by decide +kernel, by decide +kernel, by decide +kernel⟩
theorem cvRX12_220 : j_CV RX12 220 yX12_is := ⟨Or.inl (j_in 1531 (by decide +kernel) (by decide +kernel)), j_in 1533 (by decide +kernel) (by decide +kernel), j_in 69 (by decide +kernel) (by decide +kernel)⟩
theorem fRX12_242 : j_F RX12 242 7 23 := ⟨RX12, TX12, 32, rfl, by decide, ws_in7, j_in 1200 (by decide +kernel) (by decide +kernel)⟩
theorem cb_X12_planWord : j_CB yX12_planWord cX12_planWord 1 (some .int) 0 := ⟨by decide +kernel, j_in 1588 (by decide +kernel) (by decide +kernel), j_in 114 (by decide +kernel) (by decide +kernel), by decide +kernel, by decide +kernel, by decide +kernel⟩
theorem cvRX12_246 : j_CV RX12 246 yX12_planWord := ⟨Or.inl (j_in 1585 (by decide +kernel) (by decide +kernel)), j_in 1587 (by decide +kernel) (by decide +kernel), j_in 70 (by decide +kernel) (by decide +kernel)⟩
theorem fp_7_14 : j_FP 7 14 .int := ⟨RX12, TX12, 32, tyX12, rfl, tyX12_ok, nmX12, rfl, by decide +kernel⟩
theorem cb_X12_isLetter : j_CB yX12_isLetter cX12_isLetter 1 (some .boolean) 0 := ⟨by decide +kernel, j_in 1525 (by decide +kernel) (by decide +kernel), j_in 114 (by decide +kernel) (by decide +kernel), by decide +kernel, by decide +kernel, by decide +kernel⟩
theorem cvRX12_256 : j_CV RX12 256 yX12_isLetter := ⟨Or.inl (j_in 1522 (by decide +kernel) (by decide +kernel)), j_in 1524 (by decide +kernel) (by decide +kernel), j_in 67 (by decide +kernel) (by decide +kernel)⟩
theorem cb_X12_isDigit : j_CB yX12_isDigit cX12_isDigit 1 (some .boolean) 0 := ⟨by decide +kernel, j_in 1601 (by decide +kernel) (by decide +kernel), j_in 114 (by decide +kernel) (by decide +kernel), by decide +kernel, by decide +kernel, by decide +kernel⟩
theorem cvRX12_262 : j_CV RX12 262 yX12_isDigit := ⟨Or.inl (j_in 1598 (by decide +kernel) (by decide +kernel)), j_in 1600 (by decide +kernel) (by decide +kernel), j_in 71 (by decide +kernel) (by decide +kernel)⟩
theorem fRX12_265 : j_F RX12 265 7 15 := ⟨RX12, TX12, 32, rfl, by decide, ws_in7, j_in 1192 (by decide +kernel) (by decide +kernel)⟩
theorem fp_7_15 : j_FP 7 15 .int := ⟨RX12, TX12, 32, tyX12, rfl, tyX12_ok, nmX12, rfl, by decide +kernel⟩
theorem fRX12_253 : j_F RX12 253 7 13 := ⟨RX12, TX12, 32, rfl, by decide, ws_in7, j_in 1190 (by decide +kernel) (by decide +kernel)⟩
theorem fp_7_13 : j_FP 7 13 .int := ⟨RX12, TX12, 32, tyX12, rfl, tyX12_ok, nmX12, rfl, by decide +kernel⟩
theorem fp_7_12 : j_FP 7 12 .int := ⟨RX12, TX12, 32, tyX12, rfl, tyX12_ok, nmX12, rfl, by decide +kernel⟩
theorem cb_X12_wordOf : j_CB yX12_wordOf cX12_wordOf 1 (some .int) 0 := ⟨by decide +kernel, j_in 1529 (by decide +kernel) (by decide +kernel), j_in 114 (by decide +kernel) (by decide +kernel), by decide +kernel, by decide +kernel, by decide +kernel⟩
theorem cvRX12_259 : j_CV RX12 259 yX12_wordOf := ⟨Or.inl (j_in 1526 (by decide +kernel) (by decide +kernel)), j_in 1528 (by decide +kernel) (by decide +kernel), j_in 68 (by decide +kernel) (by decide +kernel)⟩
theorem fRX12_29 : j_F RX12 29 7 7 := ⟨RX12, TX12, 32, rfl, by decide, ws_in7, j_in 1184 (by decide +kernel) (by decide +kernel)⟩
theorem cb_X12_goesOn : j_CB yX12_goesOn cX12_goesOn 2 none 0 := ⟨by decide +kernel, j_in 1521 (by decide +kernel) (by decide +kernel), j_in 114 (by decide +kernel) (by decide +kernel), by decide +kernel, by decide +kernel, by decide +kernel⟩
theorem cvRX12_277 : j_CV RX12 277 yX12_goesOn := ⟨Or.inl (j_in 1518 (by decide +kernel) (by decide +kernel)), j_in 1520 (by decide +kernel) (by decide +kernel), j_in 66 (by decide +kernel) (by decide +kernel)⟩
theorem cb_X12_bad : j_CB yX12_bad cX12_bad 2 (some .boolean) 1 := ⟨by decide +kernel, j_in 1605 (by decide +kernel) (by decide +kernel), j_in 114 (by decide +kernel) (by decide +kernel), by decide +kernel, by decide +kernel, by decide +kernel⟩
theorem cvRX12_274 : j_CV RX12 274 yX12_bad := ⟨Or.inl (j_in 1602 (by decide +kernel) (by decide +kernel)), j_in 1604 (by decide +kernel) (by decide +kernel), j_in 72 (by decide +kernel) (by decide +kernel)⟩
theorem cb_X12_number : j_CB yX12_number cX12_number 4 (some .boolean) 3 := ⟨by decide +kernel, j_in 1617 (by decide +kernel) (by decide +kernel), j_in 114 (by decide +kernel) (by decide +kernel), by decide +kernel, by decide +kernel, by decide +kernel⟩
theorem cvRX12_286 : j_CV RX12 286 yX12_number := ⟨Or.inl (j_in 1614 (by decide +kernel) (by decide +kernel)), j_in 1616 (by decide +kernel) (by decide +kernel), j_in 75 (by decide +kernel) (by decide +kernel)⟩
theorem cb_X12_need : j_CB yX12_need cX12_need 2 (some .boolean) 1 := ⟨by decide +kernel, j_in 1621 (by decide +kernel) (by decide +kernel), j_in 114 (by decide +kernel) (by decide +kernel), by decide +kernel, by decide +kernel, by decide +kernel⟩
theorem cvRX12_289 : j_CV RX12 289 yX12_need := ⟨Or.inl (j_in 1618 (by decide +kernel) (by decide +kernel)), j_in 1620 (by decide +kernel) (by decide +kernel), j_in 76 (by decide +kernel) (by decide +kernel)⟩
theorem cb_X12_opens : j_CB yX12_opens cX12_opens 1 (some .boolean) 0 := ⟨by decide +kernel, j_in 1641 (by decide +kernel) (by decide +kernel), j_in 114 (by decide +kernel) (by decide +kernel), by decide +kernel, by decide +kernel, by decide +kernel⟩
theorem cvRX12_292 : j_CV RX12 292 yX12_opens := ⟨Or.inl (j_in 1638 (by decide +kernel) (by decide +kernel)), j_in 1640 (by decide +kernel) (by decide +kernel), j_in 81 (by decide +kernel) (by decide +kernel)⟩
theorem fp_7_16 : j_FP 7 16 .int := ⟨RX12, TX12, 32, tyX12, rfl, tyX12_ok, nmX12, rfl, by decide +kernel⟩
theorem cb_X12_oneOf : j_CB yX12_oneOf cX12_oneOf 2 (some .boolean) 0 := ⟨by decide +kernel, j_in 1637 (by decide +kernel) (by decide +kernel), j_in 114 (by decide +kernel) (by decide +kernel), by decide +kernel, by decide +kernel, by decide +kernel⟩
theorem cvRX12_298 : j_CV RX12 298 yX12_oneOf := ⟨Or.inl (j_in 1634 (by decide +kernel) (by decide +kernel)), j_in 1636 (by decide +kernel) (by decide +kernel), j_in 80 (by decide +kernel) (by decide +kernel)⟩
theorem cb_X12_closes : j_CB yX12_closes cX12_closes 1 (some .boolean) 0 := ⟨by decide +kernel, j_in 1633 (by decide +kernel) (by decide +kernel), j_in 114 (by decide +kernel) (by decide +kernel), by decide +kernel, by decide +kernel, by decide +kernel⟩
theorem cvRX12_295 : j_CV RX12 295 yX12_closes := ⟨Or.inl (j_in 1630 (by decide +kernel) (by decide +kernel)), j_in 1632 (by decide +kernel) (by decide +kernel), j_in 79 (by decide +kernel) (by decide +kernel)⟩
theorem cb_X12_ofCpu : j_CB yX12_ofCpu cX12_ofCpu 2 (some .boolean) 0 := ⟨by decide +kernel, j_in 1613 (by decide +kernel) (by decide +kernel), j_in 114 (by decide +kernel) (by decide +kernel), by decide +kernel, by decide +kernel, by decide +kernel⟩
theorem cvRX12_304 : j_CV RX12 304 yX12_ofCpu := ⟨Or.inl (j_in 1610 (by decide +kernel) (by decide +kernel)), j_in 1612 (by decide +kernel) (by decide +kernel), j_in 74 (by decide +kernel) (by decide +kernel)⟩
theorem cb_X12_aLine : j_CB yX12_aLine cX12_aLine 3 (some .boolean) 0 := ⟨by decide +kernel, j_in 1609 (by decide +kernel) (by decide +kernel), j_in 114 (by decide +kernel) (by decide +kernel), by decide +kernel, by decide +kernel, by decide +kernel⟩
theorem cvRX12_307 : j_CV RX12 307 yX12_aLine := ⟨Or.inl (j_in 1606 (by decide +kernel) (by decide +kernel)), j_in 1608 (by decide +kernel) (by decide +kernel), j_in 73 (by decide +kernel) (by decide +kernel)⟩
theorem dX12_answers_0 : decode cX12_answers 0 = .ok (.aload_n 0, 1) := by decide +kernel
theorem dX12_answers_1 : decode cX12_answers 1 = .ok (.getfield 19, 3) := by decide +kernel
theorem dX12_answers_4 : decode cX12_answers 4 = .ok (.iconst 3, 1) := by decide +kernel
theorem dX12_answers_5 : decode cX12_answers 5 = .ok (.iaload, 1) := by decide +kernel
theorem dX12_answers_6 : decode cX12_answers 6 = .ok (.istore_n 3, 1) := by decide +kernel
theorem dX12_answers_7 : decode cX12_answers 7 = .ok (.iload_n 1, 1) := by decide +kernel
theorem dX12_answers_8 : decode cX12_answers 8 = .ok (.iload_n 3, 1) := by decide +kernel
theorem dX12_answers_9 : decode cX12_answers 9 = .ok (.invokestatic 61, 3) := by decide +kernel
theorem dX12_answers_12 : decode cX12_answers 12 = .ok (.istore 4, 2) := by decide +kernel
theorem dX12_answers_14 : decode cX12_answers 14 = .ok (.iload_n 2, 1) := by decide +kernel
theorem dX12_answers_15 : decode cX12_answers 15 = .ok (.ifCond .eq 26, 3) := by decide +kernel
theorem dX12_answers_18 : decode cX12_answers 18 = .ok (.iload_n 1, 1) := by decide +kernel
theorem dX12_answers_19 : decode cX12_answers 19 = .ok (.bipush 6, 2) := by decide +kernel
theorem dX12_answers_21 : decode cX12_answers 21 = .ok (.if_icmp .eq 20, 3) := by decide +kernel
theorem dX12_answers_24 : decode cX12_answers 24 = .ok (.aload_n 0, 1) := by decide +kernel
theorem dX12_answers_25 : decode cX12_answers 25 = .ok (.getfield 9, 3) := by decide +kernel
theorem dX12_answers_28 : decode cX12_answers 28 = .ok (.sipush 538, 3) := by decide +kernel
theorem dX12_answers_31 : decode cX12_answers 31 = .ok (.iload 4, 2) := by decide +kernel
theorem dX12_answers_33 : decode cX12_answers 33 = .ok (.iadd, 1) := by decide +kernel
theorem dX12_answers_34 : decode cX12_answers 34 = .ok (.aload_n 0, 1) := by decide +kernel
theorem dX12_answers_35 : decode cX12_answers 35 = .ok (.getfield 19, 3) := by decide +kernel
theorem dX12_answers_38 : decode cX12_answers 38 = .ok (.iconst 0, 1) := by decide +kernel
theorem dX12_answers_39 : decode cX12_answers 39 = .ok (.iaload, 1) := by decide +kernel
theorem dX12_answers_40 : decode cX12_answers 40 = .ok (.iastore, 1) := by decide +kernel
theorem dX12_answers_41 : decode cX12_answers 41 = .ok (.iload_n 1, 1) := by decide +kernel
theorem dX12_answers_42 : decode cX12_answers 42 = .ok (.bipush 6, 2) := by decide +kernel
theorem dX12_answers_44 : decode cX12_answers 44 = .ok (.if_icmp .eq 25, 3) := by decide +kernel
theorem dX12_answers_47 : decode cX12_answers 47 = .ok (.aload_n 0, 1) := by decide +kernel
theorem dX12_answers_48 : decode cX12_answers 48 = .ok (.getfield 9, 3) := by decide +kernel
theorem dX12_answers_51 : decode cX12_answers 51 = .ok (.sipush 6766, 3) := by decide +kernel
theorem dX12_answers_54 : decode cX12_answers 54 = .ok (.iload 4, 2) := by decide +kernel
theorem dX12_answers_56 : decode cX12_answers 56 = .ok (.iadd, 1) := by decide +kernel
theorem dX12_answers_57 : decode cX12_answers 57 = .ok (.dup2, 1) := by decide +kernel
theorem dX12_answers_58 : decode cX12_answers 58 = .ok (.iaload, 1) := by decide +kernel
theorem dX12_answers_59 : decode cX12_answers 59 = .ok (.iconst 1, 1) := by decide +kernel
theorem dX12_answers_60 : decode cX12_answers 60 = .ok (.aload_n 0, 1) := by decide +kernel
theorem dX12_answers_61 : decode cX12_answers 61 = .ok (.getfield 19, 3) := by decide +kernel
theorem dX12_answers_64 : decode cX12_answers 64 = .ok (.iconst 0, 1) := by decide +kernel
theorem dX12_answers_65 : decode cX12_answers 65 = .ok (.iaload, 1) := by decide +kernel
theorem dX12_answers_66 : decode cX12_answers 66 = .ok (.ishl, 1) := by decide +kernel
theorem dX12_answers_67 : decode cX12_answers 67 = .ok (.ior, 1) := by decide +kernel
theorem dX12_answers_68 : decode cX12_answers 68 = .ok (.iastore, 1) := by decide +kernel
theorem dX12_answers_69 : decode cX12_answers 69 = .ok (.aload_n 0, 1) := by decide +kernel
theorem dX12_answers_70 : decode cX12_answers 70 = .ok (.iload_n 1, 1) := by decide +kernel
theorem dX12_answers_71 : decode cX12_answers 71 = .ok (.iload_n 3, 1) := by decide +kernel
theorem dX12_answers_72 : decode cX12_answers 72 = .ok (.invokevirtual 112, 3) := by decide +kernel
theorem dX12_answers_75 : decode cX12_answers 75 = .ok (.iconst (-1), 1) := by decide +kernel
theorem dX12_answers_76 : decode cX12_answers 76 = .ok (.if_icmp .ne 16, 3) := by decide +kernel
theorem dX12_answers_79 : decode cX12_answers 79 = .ok (.aload_n 0, 1) := by decide +kernel
theorem dX12_answers_80 : decode cX12_answers 80 = .ok (.getfield 9, 3) := by decide +kernel
theorem dX12_answers_83 : decode cX12_answers 83 = .ok (.bipush 14, 2) := by decide +kernel
theorem dX12_answers_85 : decode cX12_answers 85 = .ok (.iload 4, 2) := by decide +kernel
theorem dX12_answers_87 : decode cX12_answers 87 = .ok (.iadd, 1) := by decide +kernel
theorem dX12_answers_88 : decode cX12_answers 88 = .ok (.iaload, 1) := by decide +kernel
theorem dX12_answers_89 : decode cX12_answers 89 = .ok (.ifCond .ne 4, 3) := by decide +kernel
theorem dX12_answers_92 : decode cX12_answers 92 = .ok (.return_, 1) := by decide +kernel
theorem dX12_answers_93 : decode cX12_answers 93 = .ok (.aload_n 0, 1) := by decide +kernel
theorem dX12_answers_94 : decode cX12_answers 94 = .ok (.getfield 9, 3) := by decide +kernel
theorem dX12_answers_97 : decode cX12_answers 97 = .ok (.bipush 70, 2) := by decide +kernel
theorem dX12_answers_99 : decode cX12_answers 99 = .ok (.iload 4, 2) := by decide +kernel
theorem dX12_answers_101 : decode cX12_answers 101 = .ok (.iadd, 1) := by decide +kernel
theorem dX12_answers_102 : decode cX12_answers 102 = .ok (.iaload, 1) := by decide +kernel
theorem dX12_answers_103 : decode cX12_answers 103 = .ok (.iconst 1, 1) := by decide +kernel
theorem dX12_answers_104 : decode cX12_answers 104 = .ok (.if_icmp .ne 7, 3) := by decide +kernel
theorem dX12_answers_107 : decode cX12_answers 107 = .ok (.iconst 1, 1) := by decide +kernel
theorem dX12_answers_108 : decode cX12_answers 108 = .ok (.goto 4, 3) := by decide +kernel
theorem dX12_answers_111 : decode cX12_answers 111 = .ok (.iconst 0, 1) := by decide +kernel
theorem dX12_answers_112 : decode cX12_answers 112 = .ok (.istore 5, 2) := by decide +kernel
theorem dX12_answers_114 : decode cX12_answers 114 = .ok (.iload_n 2, 1) := by decide +kernel
theorem dX12_answers_115 : decode cX12_answers 115 = .ok (.ifCond .ne 22, 3) := by decide +kernel
theorem dX12_answers_118 : decode cX12_answers 118 = .ok (.iload 5, 2) := by decide +kernel
theorem dX12_answers_120 : decode cX12_answers 120 = .ok (.ifCond .eq 32, 3) := by decide +kernel
theorem dX12_answers_123 : decode cX12_answers 123 = .ok (.aload_n 0, 1) := by decide +kernel
theorem dX12_answers_124 : decode cX12_answers 124 = .ok (.getfield 9, 3) := by decide +kernel
theorem dX12_answers_127 : decode cX12_answers 127 = .ok (.bipush 14, 2) := by decide +kernel
theorem dX12_answers_129 : decode cX12_answers 129 = .ok (.iload 4, 2) := by decide +kernel
theorem dX12_answers_131 : decode cX12_answers 131 = .ok (.iadd, 1) := by decide +kernel
theorem dX12_answers_132 : decode cX12_answers 132 = .ok (.iaload, 1) := by decide +kernel
theorem dX12_answers_133 : decode cX12_answers 133 = .ok (.iconst 1, 1) := by decide +kernel
theorem dX12_answers_134 : decode cX12_answers 134 = .ok (.if_icmp .ne 18, 3) := by decide +kernel
theorem dX12_answers_137 : decode cX12_answers 137 = .ok (.aload_n 0, 1) := by decide +kernel
theorem dX12_answers_138 : decode cX12_answers 138 = .ok (.iload_n 1, 1) := by decide +kernel
theorem dX12_answers_139 : decode cX12_answers 139 = .ok (.aload_n 0, 1) := by decide +kernel
theorem dX12_answers_140 : decode cX12_answers 140 = .ok (.getfield 19, 3) := by decide +kernel
theorem dX12_answers_143 : decode cX12_answers 143 = .ok (.iconst 0, 1) := by decide +kernel
theorem dX12_answers_144 : decode cX12_answers 144 = .ok (.iaload, 1) := by decide +kernel
theorem dX12_answers_145 : decode cX12_answers 145 = .ok (.iload_n 3, 1) := by decide +kernel
theorem dX12_answers_146 : decode cX12_answers 146 = .ok (.invokevirtual 115, 3) := by decide +kernel
theorem dX12_answers_149 : decode cX12_answers 149 = .ok (.goto 23, 3) := by decide +kernel
theorem dX12_answers_152 : decode cX12_answers 152 = .ok (.iload 5, 2) := by decide +kernel
theorem dX12_answers_154 : decode cX12_answers 154 = .ok (.ifCond .eq 18, 3) := by decide +kernel
theorem dX12_answers_157 : decode cX12_answers 157 = .ok (.aload_n 0, 1) := by decide +kernel
theorem dX12_answers_158 : decode cX12_answers 158 = .ok (.iload_n 1, 1) := by decide +kernel
theorem dX12_answers_159 : decode cX12_answers 159 = .ok (.aload_n 0, 1) := by decide +kernel
theorem dX12_answers_160 : decode cX12_answers 160 = .ok (.getfield 19, 3) := by decide +kernel
theorem dX12_answers_163 : decode cX12_answers 163 = .ok (.iconst 0, 1) := by decide +kernel
theorem dX12_answers_164 : decode cX12_answers 164 = .ok (.iaload, 1) := by decide +kernel
theorem dX12_answers_165 : decode cX12_answers 165 = .ok (.iload_n 3, 1) := by decide +kernel
theorem dX12_answers_166 : decode cX12_answers 166 = .ok (.iconst 1, 1) := by decide +kernel
theorem dX12_answers_167 : decode cX12_answers 167 = .ok (.iconst 0, 1) := by decide +kernel
theorem dX12_answers_168 : decode cX12_answers 168 = .ok (.iconst 1, 1) := by decide +kernel
theorem dX12_answers_169 : decode cX12_answers 169 = .ok (.invokevirtual 108, 3) := by decide +kernel
theorem dX12_answers_172 : decode cX12_answers 172 = .ok (.return_, 1) := by decide +kernel
def xX12_answers_152   (l1 : Int32) (l3 : Int32) (l5 : Int32) (M : j_M) : Option (j_M) := (if l5 = (0 : Int32) then some M else gd (nI 0) 9 (oli (M 204 (ix (nI 0))) fun v1 => obv (xX12_gives l1 v1 l3 (nI 1) (nI 0) (nI 1) M) fun M2 => some M2))
set_option maxRecDepth 20000 in
set_option maxHeartbeats 2000000 in
theorem tX12_answers_152    (l1 : Int32) (l3 : Int32) (l5 : Int32) (M : j_M) : J (ρ := j_M) yX12_answers cX12_answers 6 none 5 119 j_ev 152 [(0, .inr (17, 0, 200)), (1, .inl (l1)), (3, .inl (l3)), (5, .inl (l5))] [] M (xX12_answers_152  l1 l3 l5 M) := by
  unfold xX12_answers_152
  refine K_iload (q := 154) 3 dX12_answers_152 rfl rfl ?_
  refine K_if_eq (q := 157) (tgt := 172) dX12_answers_154 rfl ?_ rfl ?_
  · exact J_vret dX12_answers_172
  · refine K_aload_n (q := 158) 0 dX12_answers_157 rfl rfl rfl ?_
    refine K_iload_n (q := 159) 1 dX12_answers_158 rfl rfl rfl ?_
    refine K_aload_n (q := 160) 0 dX12_answers_159 rfl rfl rfl ?_
    refine K_getR (q := 163) (ci := 7) (a2 := 204) 4 dX12_answers_160 fRX12_19 rfl rfl (by decide) rfl rfl ?_
    refine K_iconst (q := 164) (v := nI 0) dX12_answers_163 rfl rfl ?_
    refine K_iald (q := 165) dX12_answers_164 rfl (fun v1 => ?_)
    refine K_iload_n (q := 166) 2 dX12_answers_165 rfl rfl rfl ?_
    refine K_iconst (q := 167) (v := nI 1) dX12_answers_166 rfl rfl ?_
    refine K_iconst (q := 168) (v := nI 0) dX12_answers_167 rfl rfl ?_
    refine K_iconst (q := 169) (v := nI 1) dX12_answers_168 rfl rfl ?_
    refine K_cvv (q := 172) [.inl (l1), .inl (v1), .inl (l3), .inl ((nI 1)), .inl ((nI 0)), .inl ((nI 1))] dX12_answers_169 cb_X12_gives cvRX12_108 rc_7 (show (17 : Nat) ≠ 0 by decide) rfl (Nat.le_of_ble_eq_true rfl) ⟨by decide, by decide⟩ (Nat.le_of_ble_eq_true rfl) rfl (tX12_gives l1 v1 l3 (nI 1) (nI 0) (nI 1) M) rfl (fun M2 => ?_)
    exact J_vret dX12_answers_172
def xX12_answers_137   (l1 : Int32) (l3 : Int32) (M : j_M) : Option (j_M) := gd (nI 0) 9 (oli (M 204 (ix (nI 0))) fun v1 => obv (xX12_givesAll l1 v1 l3 M) fun M2 => some M2)
set_option maxRecDepth 20000 in
set_option maxHeartbeats 2000000 in
theorem tX12_answers_137    (l1 : Int32) (l3 : Int32) (M : j_M) : J (ρ := j_M) yX12_answers cX12_answers 6 none 5 119 j_ev 137 [(0, .inr (17, 0, 200)), (1, .inl (l1)), (3, .inl (l3))] [] M (xX12_answers_137  l1 l3 M) := by
  unfold xX12_answers_137
  refine K_aload_n (q := 138) 0 dX12_answers_137 rfl rfl rfl ?_
  refine K_iload_n (q := 139) 1 dX12_answers_138 rfl rfl rfl ?_
  refine K_aload_n (q := 140) 0 dX12_answers_139 rfl rfl rfl ?_
  refine K_getR (q := 143) (ci := 7) (a2 := 204) 4 dX12_answers_140 fRX12_19 rfl rfl (by decide) rfl rfl ?_
  refine K_iconst (q := 144) (v := nI 0) dX12_answers_143 rfl rfl ?_
  refine K_iald (q := 145) dX12_answers_144 rfl (fun v1 => ?_)
  refine K_iload_n (q := 146) 2 dX12_answers_145 rfl rfl rfl ?_
  refine K_cvv (q := 149) [.inl (l1), .inl (v1), .inl (l3)] dX12_answers_146 cb_X12_givesAll cvRX12_115 rc_7 (show (17 : Nat) ≠ 0 by decide) rfl (Nat.le_of_ble_eq_true rfl) ⟨by decide, by decide⟩ (Nat.le_of_ble_eq_true rfl) rfl (tX12_givesAll l1 v1 l3 M) rfl (fun M2 => ?_)
  refine J_goto (tgt := 172) dX12_answers_149 rfl ?_
  exact J_vret dX12_answers_172
def xX12_answers_112   (l1 : Int32) (l2 : Int32) (l3 : Int32) (l4 : Int32) (s0 : Int32) (M : j_M) : Option (j_M) := (if l2 = (0 : Int32) then (if s0 = (0 : Int32) then xX12_answers_152  l1 l3 s0 M else gd ((nI 14) + l4) 7460 (oli (M 201 (ix ((nI 14) + l4))) fun v1 => (if v1 = (nI 1) then xX12_answers_137  l1 l3 M else xX12_answers_152  l1 l3 s0 M))) else xX12_answers_137  l1 l3 M)
set_option maxRecDepth 20000 in
set_option maxHeartbeats 2000000 in
theorem tX12_answers_112    (l1 : Int32) (l2 : Int32) (l3 : Int32) (l4 : Int32) (s0 : Int32) (M : j_M) : J (ρ := j_M) yX12_answers cX12_answers 6 none 5 119 j_ev 112 [(0, .inr (17, 0, 200)), (1, .inl (l1)), (2, .inl (l2)), (3, .inl (l3)), (4, .inl (l4))] [.inl (s0)] M (xX12_answers_112  l1 l2 l3 l4 s0 M) := by
  unfold xX12_answers_112
  refine K_istore (q := 114) (ll' := [(5, .inl (s0)), (0, .inr (17, 0, 200)), (1, .inl (l1)), (2, .inl (l2)), (3, .inl (l3)), (4, .inl (l4))]) dX12_answers_112 (by decide) rfl rfl ?_
  refine K_iload_n (q := 115) 3 dX12_answers_114 rfl rfl rfl ?_
  refine K_if_ne (q := 118) (tgt := 137) dX12_answers_115 rfl ?_ rfl ?_
  · exact J_sub [1, 2, 4] (tX12_answers_137  l1 l3 M) rfl
  · refine K_iload (q := 120) 0 dX12_answers_118 rfl rfl ?_
    refine K_if_eq (q := 123) (tgt := 152) dX12_answers_120 rfl ?_ rfl ?_
    · exact J_sub [1, 2, 4, 0] (tX12_answers_152  l1 l3 s0 M) rfl
    · refine K_aload_n (q := 124) 1 dX12_answers_123 rfl rfl rfl ?_
      refine K_getR (q := 127) (ci := 7) (a2 := 201) 0 dX12_answers_124 fRX12_9 rfl rfl (by decide) rfl rfl ?_
      refine K_bipush (q := 129) (v := nI 14) dX12_answers_127 rfl rfl ?_
      refine K_iload (q := 131) 5 dX12_answers_129 rfl rfl ?_
      refine K_iadd (q := 132) dX12_answers_131 rfl ?_
      refine K_iald (q := 133) dX12_answers_132 rfl (fun v1 => ?_)
      refine K_iconst (q := 134) (v := nI 1) dX12_answers_133 rfl rfl ?_
      refine K_icmp_ne (q := 137) (tgt := 152) dX12_answers_134 rfl ?_ rfl ?_
      · exact J_sub [1, 2, 4, 0] (tX12_answers_152  l1 l3 s0 M) rfl
      · exact J_sub [1, 2, 4] (tX12_answers_137  l1 l3 M) rfl
def xX12_answers_69   (l1 : Int32) (l2 : Int32) (l3 : Int32) (l4 : Int32) (M : j_M) : Option (j_M) := obi (xX12_turn l1 l3 M) fun v2 M1 => (if v2 = (-1 : Int32) then gd ((nI 14) + l4) 7460 (oli (M1 201 (ix ((nI 14) + l4))) fun v3 => (if v3 = (0 : Int32) then some M1 else gd ((nI 70) + l4) 7460 (oli (M1 201 (ix ((nI 70) + l4))) fun v4 => (if v4 = (nI 1) then xX12_answers_112  l1 l2 l3 l4 (nI 1) M1 else xX12_answers_112  l1 l2 l3 l4 (nI 0) M1)))) else some M1)
set_option maxRecDepth 20000 in
set_option maxHeartbeats 2000000 in
theorem tX12_answers_69    (l1 : Int32) (l2 : Int32) (l3 : Int32) (l4 : Int32) (M : j_M) : J (ρ := j_M) yX12_answers cX12_answers 6 none 5 119 j_ev 69 [(0, .inr (17, 0, 200)), (1, .inl (l1)), (2, .inl (l2)), (3, .inl (l3)), (4, .inl (l4))] [] M (xX12_answers_69  l1 l2 l3 l4 M) := by
  unfold xX12_answers_69
  refine K_aload_n (q := 70) 0 dX12_answers_69 rfl rfl rfl ?_
  refine K_iload_n (q := 71) 1 dX12_answers_70 rfl rfl rfl ?_
  refine K_iload_n (q := 72) 3 dX12_answers_71 rfl rfl rfl ?_
  refine K_cvi (q := 75) [.inl (l1), .inl (l3)] dX12_answers_72 cb_X12_turn cvRX12_112 rc_7 (show (17 : Nat) ≠ 0 by decide) rfl (Nat.le_of_ble_eq_true rfl) ⟨by decide, by decide⟩ (Nat.le_of_ble_eq_true rfl) rfl (tX12_turn l1 l3 M) rfl (fun v2 M1 => ?_)
  refine K_iconst (q := 76) (v := -1) dX12_answers_75 rfl rfl ?_
  refine K_icmp_ne (q := 79) (tgt := 92) dX12_answers_76 rfl ?_ rfl ?_
  · exact J_vret dX12_answers_92
  · refine K_aload_n (q := 80) 0 dX12_answers_79 rfl rfl rfl ?_
    refine K_getR (q := 83) (ci := 7) (a2 := 201) 0 dX12_answers_80 fRX12_9 rfl rfl (by decide) rfl rfl ?_
    refine K_bipush (q := 85) (v := nI 14) dX12_answers_83 rfl rfl ?_
    refine K_iload (q := 87) 4 dX12_answers_85 rfl rfl ?_
    refine K_iadd (q := 88) dX12_answers_87 rfl ?_
    refine K_iald (q := 89) dX12_answers_88 rfl (fun v3 => ?_)
    refine K_if_ne (q := 92) (tgt := 93) dX12_answers_89 rfl ?_ rfl ?_
    · refine K_aload_n (q := 94) 0 dX12_answers_93 rfl rfl rfl ?_
      refine K_getR (q := 97) (ci := 7) (a2 := 201) 0 dX12_answers_94 fRX12_9 rfl rfl (by decide) rfl rfl ?_
      refine K_bipush (q := 99) (v := nI 70) dX12_answers_97 rfl rfl ?_
      refine K_iload (q := 101) 4 dX12_answers_99 rfl rfl ?_
      refine K_iadd (q := 102) dX12_answers_101 rfl ?_
      refine K_iald (q := 103) dX12_answers_102 rfl (fun v4 => ?_)
      refine K_iconst (q := 104) (v := nI 1) dX12_answers_103 rfl rfl ?_
      refine K_icmp_ne (q := 107) (tgt := 111) dX12_answers_104 rfl ?_ rfl ?_
      · refine K_iconst (q := 112) (v := nI 0) dX12_answers_111 rfl rfl ?_
        exact J_sub [0, 1, 2, 3, 4] (tX12_answers_112  l1 l2 l3 l4 (nI 0) M1) rfl
      · refine K_iconst (q := 108) (v := nI 1) dX12_answers_107 rfl rfl ?_
        refine J_goto (tgt := 112) dX12_answers_108 rfl ?_
        exact J_sub [0, 1, 2, 3, 4] (tX12_answers_112  l1 l2 l3 l4 (nI 1) M1) rfl
    · exact J_vret dX12_answers_92
def xX12_answers_41   (l1 : Int32) (l2 : Int32) (l3 : Int32) (l4 : Int32) (M : j_M) : Option (j_M) := (if l1 = (nI 6) then xX12_answers_69  l1 l2 l3 l4 M else gd ((nI 6766) + l4) 7460 (oli (M 201 (ix ((nI 6766) + l4))) fun v1 => gd (nI 0) 9 (oli (M 204 (ix (nI 0))) fun v2 => gd ((nI 6766) + l4) 7460 (oml (mw M 201 (ix ((nI 6766) + l4)) (v1 ||| ((nI 1) <<< (v2 &&& 31)))) fun M3 => xX12_answers_69  l1 l2 l3 l4 M3))))
set_option maxRecDepth 20000 in
set_option maxHeartbeats 2000000 in
theorem tX12_answers_41    (l1 : Int32) (l2 : Int32) (l3 : Int32) (l4 : Int32) (M : j_M) : J (ρ := j_M) yX12_answers cX12_answers 6 none 5 119 j_ev 41 [(0, .inr (17, 0, 200)), (1, .inl (l1)), (2, .inl (l2)), (3, .inl (l3)), (4, .inl (l4))] [] M (xX12_answers_41  l1 l2 l3 l4 M) := by
  unfold xX12_answers_41
  refine K_iload_n (q := 42) 1 dX12_answers_41 rfl rfl rfl ?_
  refine K_bipush (q := 44) (v := nI 6) dX12_answers_42 rfl rfl ?_
  refine K_icmp_eq (q := 47) (tgt := 69) dX12_answers_44 rfl ?_ rfl ?_
  · exact J_sub [0, 1, 2, 3, 4] (tX12_answers_69  l1 l2 l3 l4 M) rfl
  · refine K_aload_n (q := 48) 0 dX12_answers_47 rfl rfl rfl ?_
    refine K_getR (q := 51) (ci := 7) (a2 := 201) 0 dX12_answers_48 fRX12_9 rfl rfl (by decide) rfl rfl ?_
    refine K_sipush (q := 54) (v := nI 6766) dX12_answers_51 rfl rfl ?_
    refine K_iload (q := 56) 4 dX12_answers_54 rfl rfl ?_
    refine K_iadd (q := 57) dX12_answers_56 rfl ?_
    refine K_dup2 (q := 58) dX12_answers_57 rfl ?_
    refine K_iald (q := 59) dX12_answers_58 rfl (fun v1 => ?_)
    refine K_iconst (q := 60) (v := nI 1) dX12_answers_59 rfl rfl ?_
    refine K_aload_n (q := 61) 0 dX12_answers_60 rfl rfl rfl ?_
    refine K_getR (q := 64) (ci := 7) (a2 := 204) 4 dX12_answers_61 fRX12_19 rfl rfl (by decide) rfl rfl ?_
    refine K_iconst (q := 65) (v := nI 0) dX12_answers_64 rfl rfl ?_
    refine K_iald (q := 66) dX12_answers_65 rfl (fun v2 => ?_)
    refine K_ishl (q := 67) dX12_answers_66 rfl ?_
    refine K_ior (q := 68) dX12_answers_67 rfl ?_
    refine K_iast (q := 69) dX12_answers_68 rfl (fun M3 => ?_)
    exact J_sub [0, 1, 2, 3, 4] (tX12_answers_69  l1 l2 l3 l4 M3) rfl
def xX12_answers  (l1 : Int32) (l2 : Int32) (M : j_M) : Option (j_M) := gd (nI 3) 9 (oli (M 204 (ix (nI 3))) fun v1 => obi (xX12_place l1 v1 M) fun v3 M2 => (if l2 = (0 : Int32) then xX12_answers_41  l1 l2 v1 v3 M2 else (if l1 = (nI 6) then xX12_answers_41  l1 l2 v1 v3 M2 else gd (nI 0) 9 (oli (M2 204 (ix (nI 0))) fun v4 => gd ((nI 538) + v3) 7460 (oml (mw M2 201 (ix ((nI 538) + v3)) v4) fun M5 => xX12_answers_41  l1 l2 v1 v3 M5)))))
set_option maxRecDepth 20000 in
set_option maxHeartbeats 2000000 in
theorem tX12_answers  (l1 : Int32) (l2 : Int32) (M : j_M) : J (ρ := j_M) yX12_answers cX12_answers 6 none 5 119 j_ev 0 [(0, .inr (17, 0, 200)), (1, .inl (l1)), (2, .inl (l2))] [] M (xX12_answers  l1 l2 M) := by
  unfold xX12_answers
  refine K_aload_n (q := 1) 0 dX12_answers_0 rfl rfl rfl ?_
  refine K_getR (q := 4) (ci := 7) (a2 := 204) 4 dX12_answers_1 fRX12_19 rfl rfl (by decide) rfl rfl ?_
  refine K_iconst (q := 5) (v := nI 3) dX12_answers_4 rfl rfl ?_
  refine K_iald (q := 6) dX12_answers_5 rfl (fun v1 => ?_)
  refine K_istore_n (q := 7) (ll' := [(3, .inl (v1)), (0, .inr (17, 0, 200)), (1, .inl (l1)), (2, .inl (l2))]) dX12_answers_6 rfl (by decide) rfl rfl ?_
  refine K_iload_n (q := 8) 2 dX12_answers_7 rfl rfl rfl ?_
  refine K_iload_n (q := 9) 0 dX12_answers_8 rfl rfl rfl ?_
  refine K_csi (q := 12) [.inl (l1), .inl (v1)] dX12_answers_9 cb_X12_place cvRX12_61 rfl (Nat.le_of_ble_eq_true rfl) ⟨by decide, by decide⟩ (Nat.le_of_ble_eq_true rfl) rfl (tX12_place l1 v1 M) rfl (fun v3 M2 => ?_)
  refine K_istore (q := 14) (ll' := [(4, .inl (v3)), (3, .inl (v1)), (0, .inr (17, 0, 200)), (1, .inl (l1)), (2, .inl (l2))]) dX12_answers_12 (by decide) rfl rfl ?_
  refine K_iload_n (q := 15) 4 dX12_answers_14 rfl rfl rfl ?_
  refine K_if_eq (q := 18) (tgt := 41) dX12_answers_15 rfl ?_ rfl ?_
  · exact J_sub [2, 3, 4, 1, 0] (tX12_answers_41  l1 l2 v1 v3 M2) rfl
  · refine K_iload_n (q := 19) 3 dX12_answers_18 rfl rfl rfl ?_
    refine K_bipush (q := 21) (v := nI 6) dX12_answers_19 rfl rfl ?_
    refine K_icmp_eq (q := 24) (tgt := 41) dX12_answers_21 rfl ?_ rfl ?_
    · exact J_sub [2, 3, 4, 1, 0] (tX12_answers_41  l1 l2 v1 v3 M2) rfl
    · refine K_aload_n (q := 25) 2 dX12_answers_24 rfl rfl rfl ?_
      refine K_getR (q := 28) (ci := 7) (a2 := 201) 0 dX12_answers_25 fRX12_9 rfl rfl (by decide) rfl rfl ?_
      refine K_sipush (q := 31) (v := nI 538) dX12_answers_28 rfl rfl ?_
      refine K_iload (q := 33) 0 dX12_answers_31 rfl rfl ?_
      refine K_iadd (q := 34) dX12_answers_33 rfl ?_
      refine K_aload_n (q := 35) 2 dX12_answers_34 rfl rfl rfl ?_
      refine K_getR (q := 38) (ci := 7) (a2 := 204) 4 dX12_answers_35 fRX12_19 rfl rfl (by decide) rfl rfl ?_
      refine K_iconst (q := 39) (v := nI 0) dX12_answers_38 rfl rfl ?_
      refine K_iald (q := 40) dX12_answers_39 rfl (fun v4 => ?_)
      refine K_iast (q := 41) dX12_answers_40 rfl (fun M5 => ?_)
      exact J_sub [2, 3, 4, 1, 0] (tX12_answers_41  l1 l2 v1 v3 M5) rfl
theorem dX12_eldest_0 : decode cX12_eldest 0 = .ok (.aload_n 0, 1) := by decide +kernel
theorem dX12_eldest_1 : decode cX12_eldest 1 = .ok (.getfield 9, 3) := by decide +kernel
theorem dX12_eldest_4 : decode cX12_eldest 4 = .ok (.sipush 244, 3) := by decide +kernel
theorem dX12_eldest_7 : decode cX12_eldest 7 = .ok (.iload_n 1, 1) := by decide +kernel
theorem dX12_eldest_8 : decode cX12_eldest 8 = .ok (.iconst 0, 1) := by decide +kernel
theorem dX12_eldest_9 : decode cX12_eldest 9 = .ok (.invokestatic 61, 3) := by decide +kernel
theorem dX12_eldest_12 : decode cX12_eldest 12 = .ok (.iadd, 1) := by decide +kernel
theorem dX12_eldest_13 : decode cX12_eldest 13 = .ok (.iaload, 1) := by decide +kernel
theorem dX12_eldest_14 : decode cX12_eldest 14 = .ok (.iload_n 2, 1) := by decide +kernel
theorem dX12_eldest_15 : decode cX12_eldest 15 = .ok (.if_icmp .ne 20, 3) := by decide +kernel
theorem dX12_eldest_18 : decode cX12_eldest 18 = .ok (.aload_n 0, 1) := by decide +kernel
theorem dX12_eldest_19 : decode cX12_eldest 19 = .ok (.getfield 9, 3) := by decide +kernel
theorem dX12_eldest_22 : decode cX12_eldest 22 = .ok (.sipush 244, 3) := by decide +kernel
theorem dX12_eldest_25 : decode cX12_eldest 25 = .ok (.iload_n 1, 1) := by decide +kernel
theorem dX12_eldest_26 : decode cX12_eldest 26 = .ok (.iconst 1, 1) := by decide +kernel
theorem dX12_eldest_27 : decode cX12_eldest 27 = .ok (.invokestatic 61, 3) := by decide +kernel
theorem dX12_eldest_30 : decode cX12_eldest 30 = .ok (.iadd, 1) := by decide +kernel
theorem dX12_eldest_31 : decode cX12_eldest 31 = .ok (.iaload, 1) := by decide +kernel
theorem dX12_eldest_32 : decode cX12_eldest 32 = .ok (.goto 17, 3) := by decide +kernel
theorem dX12_eldest_35 : decode cX12_eldest 35 = .ok (.aload_n 0, 1) := by decide +kernel
theorem dX12_eldest_36 : decode cX12_eldest 36 = .ok (.getfield 9, 3) := by decide +kernel
theorem dX12_eldest_39 : decode cX12_eldest 39 = .ok (.sipush 244, 3) := by decide +kernel
theorem dX12_eldest_42 : decode cX12_eldest 42 = .ok (.iload_n 1, 1) := by decide +kernel
theorem dX12_eldest_43 : decode cX12_eldest 43 = .ok (.iconst 0, 1) := by decide +kernel
theorem dX12_eldest_44 : decode cX12_eldest 44 = .ok (.invokestatic 61, 3) := by decide +kernel
theorem dX12_eldest_47 : decode cX12_eldest 47 = .ok (.iadd, 1) := by decide +kernel
theorem dX12_eldest_48 : decode cX12_eldest 48 = .ok (.iaload, 1) := by decide +kernel
theorem dX12_eldest_49 : decode cX12_eldest 49 = .ok (.ireturn, 1) := by decide +kernel
def xX12_eldest  (l1 : Int32) (l2 : Int32) (M : j_M) : Option (Int32 × j_M) := obi (xX12_place l1 (nI 0) M) fun v2 M1 => gd ((nI 244) + v2) 7460 (oli (M1 201 (ix ((nI 244) + v2))) fun v3 => (if v3 = l2 then obi (xX12_place l1 (nI 1) M1) fun v8 M7 => gd ((nI 244) + v8) 7460 (oli (M7 201 (ix ((nI 244) + v8))) fun v9 => some (v9, M7)) else obi (xX12_place l1 (nI 0) M1) fun v5 M4 => gd ((nI 244) + v5) 7460 (oli (M4 201 (ix ((nI 244) + v5))) fun v6 => some (v6, M4))))
set_option maxRecDepth 20000 in
set_option maxHeartbeats 2000000 in
theorem tX12_eldest  (l1 : Int32) (l2 : Int32) (M : j_M) : J (ρ := Int32 × j_M) yX12_eldest cX12_eldest 3 (some .int) 1 21 j_ei 0 [(0, .inr (17, 0, 200)), (1, .inl (l1)), (2, .inl (l2))] [] M (xX12_eldest  l1 l2 M) := by
  unfold xX12_eldest
  refine K_aload_n (q := 1) 0 dX12_eldest_0 rfl rfl rfl ?_
  refine K_getR (q := 4) (ci := 7) (a2 := 201) 0 dX12_eldest_1 fRX12_9 rfl rfl (by decide) rfl rfl ?_
  refine K_sipush (q := 7) (v := nI 244) dX12_eldest_4 rfl rfl ?_
  refine K_iload_n (q := 8) 1 dX12_eldest_7 rfl rfl rfl ?_
  refine K_iconst (q := 9) (v := nI 0) dX12_eldest_8 rfl rfl ?_
  refine K_csi (q := 12) [.inl (l1), .inl ((nI 0))] dX12_eldest_9 cb_X12_place cvRX12_61 rfl (Nat.le_of_ble_eq_true rfl) ⟨by decide, by decide⟩ (Nat.le_of_ble_eq_true rfl) rfl (tX12_place l1 (nI 0) M) rfl (fun v2 M1 => ?_)
  refine K_iadd (q := 13) dX12_eldest_12 rfl ?_
  refine K_iald (q := 14) dX12_eldest_13 rfl (fun v3 => ?_)
  refine K_iload_n (q := 15) 2 dX12_eldest_14 rfl rfl rfl ?_
  refine K_icmp_ne (q := 18) (tgt := 35) dX12_eldest_15 rfl ?_ rfl ?_
  · refine K_aload_n (q := 36) 0 dX12_eldest_35 rfl rfl rfl ?_
    refine K_getR (q := 39) (ci := 7) (a2 := 201) 0 dX12_eldest_36 fRX12_9 rfl rfl (by decide) rfl rfl ?_
    refine K_sipush (q := 42) (v := nI 244) dX12_eldest_39 rfl rfl ?_
    refine K_iload_n (q := 43) 1 dX12_eldest_42 rfl rfl rfl ?_
    refine K_iconst (q := 44) (v := nI 0) dX12_eldest_43 rfl rfl ?_
    refine K_csi (q := 47) [.inl (l1), .inl ((nI 0))] dX12_eldest_44 cb_X12_place cvRX12_61 rfl (Nat.le_of_ble_eq_true rfl) ⟨by decide, by decide⟩ (Nat.le_of_ble_eq_true rfl) rfl (tX12_place l1 (nI 0) M1) rfl (fun v5 M4 => ?_)
    refine K_iadd (q := 48) dX12_eldest_47 rfl ?_
    refine K_iald (q := 49) dX12_eldest_48 rfl (fun v6 => ?_)
    exact J_iret dX12_eldest_49
  · refine K_aload_n (q := 19) 0 dX12_eldest_18 rfl rfl rfl ?_
    refine K_getR (q := 22) (ci := 7) (a2 := 201) 0 dX12_eldest_19 fRX12_9 rfl rfl (by decide) rfl rfl ?_
    refine K_sipush (q := 25) (v := nI 244) dX12_eldest_22 rfl rfl ?_
    refine K_iload_n (q := 26) 1 dX12_eldest_25 rfl rfl rfl ?_
    refine K_iconst (q := 27) (v := nI 1) dX12_eldest_26 rfl rfl ?_
    refine K_csi (q := 30) [.inl (l1), .inl ((nI 1))] dX12_eldest_27 cb_X12_place cvRX12_61 rfl (Nat.le_of_ble_eq_true rfl) ⟨by decide, by decide⟩ (Nat.le_of_ble_eq_true rfl) rfl (tX12_place l1 (nI 1) M1) rfl (fun v8 M7 => ?_)
    refine K_iadd (q := 31) dX12_eldest_30 rfl ?_
    refine K_iald (q := 32) dX12_eldest_31 rfl (fun v9 => ?_)
    refine J_goto (tgt := 49) dX12_eldest_32 rfl ?_
    exact J_iret dX12_eldest_49
theorem dX12_comes_0 : decode cX12_comes 0 = .ok (.aload_n 0, 1) := by decide +kernel
theorem dX12_comes_1 : decode cX12_comes 1 = .ok (.getfield 19, 3) := by decide +kernel
theorem dX12_comes_4 : decode cX12_comes 4 = .ok (.iconst 3, 1) := by decide +kernel
theorem dX12_comes_5 : decode cX12_comes 5 = .ok (.iaload, 1) := by decide +kernel
theorem dX12_comes_6 : decode cX12_comes 6 = .ok (.istore_n 2, 1) := by decide +kernel
theorem dX12_comes_7 : decode cX12_comes 7 = .ok (.iload_n 1, 1) := by decide +kernel
theorem dX12_comes_8 : decode cX12_comes 8 = .ok (.iload_n 2, 1) := by decide +kernel
theorem dX12_comes_9 : decode cX12_comes 9 = .ok (.invokestatic 61, 3) := by decide +kernel
theorem dX12_comes_12 : decode cX12_comes 12 = .ok (.istore_n 3, 1) := by decide +kernel
theorem dX12_comes_13 : decode cX12_comes 13 = .ok (.iload_n 1, 1) := by decide +kernel
theorem dX12_comes_14 : decode cX12_comes 14 = .ok (.bipush 6, 2) := by decide +kernel
theorem dX12_comes_16 : decode cX12_comes 16 = .ok (.if_icmp .eq 180, 3) := by decide +kernel
theorem dX12_comes_19 : decode cX12_comes 19 = .ok (.aload_n 0, 1) := by decide +kernel
theorem dX12_comes_20 : decode cX12_comes 20 = .ok (.getfield 9, 3) := by decide +kernel
theorem dX12_comes_23 : decode cX12_comes 23 = .ok (.sipush 538, 3) := by decide +kernel
theorem dX12_comes_26 : decode cX12_comes 26 = .ok (.iload_n 3, 1) := by decide +kernel
theorem dX12_comes_27 : decode cX12_comes 27 = .ok (.iadd, 1) := by decide +kernel
theorem dX12_comes_28 : decode cX12_comes 28 = .ok (.aload_n 0, 1) := by decide +kernel
theorem dX12_comes_29 : decode cX12_comes 29 = .ok (.getfield 19, 3) := by decide +kernel
theorem dX12_comes_32 : decode cX12_comes 32 = .ok (.iconst 0, 1) := by decide +kernel
theorem dX12_comes_33 : decode cX12_comes 33 = .ok (.iaload, 1) := by decide +kernel
theorem dX12_comes_34 : decode cX12_comes 34 = .ok (.bipush 6, 2) := by decide +kernel
theorem dX12_comes_36 : decode cX12_comes 36 = .ok (.if_icmp .ne 7, 3) := by decide +kernel
theorem dX12_comes_39 : decode cX12_comes 39 = .ok (.iconst (-1), 1) := by decide +kernel
theorem dX12_comes_40 : decode cX12_comes 40 = .ok (.goto 9, 3) := by decide +kernel
theorem dX12_comes_43 : decode cX12_comes 43 = .ok (.aload_n 0, 1) := by decide +kernel
theorem dX12_comes_44 : decode cX12_comes 44 = .ok (.getfield 19, 3) := by decide +kernel
theorem dX12_comes_47 : decode cX12_comes 47 = .ok (.iconst 0, 1) := by decide +kernel
theorem dX12_comes_48 : decode cX12_comes 48 = .ok (.iaload, 1) := by decide +kernel
theorem dX12_comes_49 : decode cX12_comes 49 = .ok (.iastore, 1) := by decide +kernel
theorem dX12_comes_50 : decode cX12_comes 50 = .ok (.aload_n 0, 1) := by decide +kernel
theorem dX12_comes_51 : decode cX12_comes 51 = .ok (.getfield 19, 3) := by decide +kernel
theorem dX12_comes_54 : decode cX12_comes 54 = .ok (.iconst 0, 1) := by decide +kernel
theorem dX12_comes_55 : decode cX12_comes 55 = .ok (.iaload, 1) := by decide +kernel
theorem dX12_comes_56 : decode cX12_comes 56 = .ok (.bipush 6, 2) := by decide +kernel
theorem dX12_comes_58 : decode cX12_comes 58 = .ok (.if_icmp .eq 24, 3) := by decide +kernel
theorem dX12_comes_61 : decode cX12_comes 61 = .ok (.aload_n 0, 1) := by decide +kernel
theorem dX12_comes_62 : decode cX12_comes 62 = .ok (.getfield 9, 3) := by decide +kernel
theorem dX12_comes_65 : decode cX12_comes 65 = .ok (.sipush 6766, 3) := by decide +kernel
theorem dX12_comes_68 : decode cX12_comes 68 = .ok (.iload_n 3, 1) := by decide +kernel
theorem dX12_comes_69 : decode cX12_comes 69 = .ok (.iadd, 1) := by decide +kernel
theorem dX12_comes_70 : decode cX12_comes 70 = .ok (.dup2, 1) := by decide +kernel
theorem dX12_comes_71 : decode cX12_comes 71 = .ok (.iaload, 1) := by decide +kernel
theorem dX12_comes_72 : decode cX12_comes 72 = .ok (.iconst 1, 1) := by decide +kernel
theorem dX12_comes_73 : decode cX12_comes 73 = .ok (.aload_n 0, 1) := by decide +kernel
theorem dX12_comes_74 : decode cX12_comes 74 = .ok (.getfield 19, 3) := by decide +kernel
theorem dX12_comes_77 : decode cX12_comes 77 = .ok (.iconst 0, 1) := by decide +kernel
theorem dX12_comes_78 : decode cX12_comes 78 = .ok (.iaload, 1) := by decide +kernel
theorem dX12_comes_79 : decode cX12_comes 79 = .ok (.ishl, 1) := by decide +kernel
theorem dX12_comes_80 : decode cX12_comes 80 = .ok (.ior, 1) := by decide +kernel
theorem dX12_comes_81 : decode cX12_comes 81 = .ok (.iastore, 1) := by decide +kernel
theorem dX12_comes_82 : decode cX12_comes 82 = .ok (.aload_n 0, 1) := by decide +kernel
theorem dX12_comes_83 : decode cX12_comes 83 = .ok (.getfield 9, 3) := by decide +kernel
theorem dX12_comes_86 : decode cX12_comes 86 = .ok (.bipush 14, 2) := by decide +kernel
theorem dX12_comes_88 : decode cX12_comes 88 = .ok (.iload_n 3, 1) := by decide +kernel
theorem dX12_comes_89 : decode cX12_comes 89 = .ok (.iadd, 1) := by decide +kernel
theorem dX12_comes_90 : decode cX12_comes 90 = .ok (.iaload, 1) := by decide +kernel
theorem dX12_comes_91 : decode cX12_comes 91 = .ok (.ifCond .ne 87, 3) := by decide +kernel
theorem dX12_comes_94 : decode cX12_comes 94 = .ok (.aload_n 0, 1) := by decide +kernel
theorem dX12_comes_95 : decode cX12_comes 95 = .ok (.getfield 9, 3) := by decide +kernel
theorem dX12_comes_98 : decode cX12_comes 98 = .ok (.sipush 238, 3) := by decide +kernel
theorem dX12_comes_101 : decode cX12_comes 101 = .ok (.iload_n 1, 1) := by decide +kernel
theorem dX12_comes_102 : decode cX12_comes 102 = .ok (.iadd, 1) := by decide +kernel
theorem dX12_comes_103 : decode cX12_comes 103 = .ok (.iaload, 1) := by decide +kernel
theorem dX12_comes_104 : decode cX12_comes 104 = .ok (.aload_n 0, 1) := by decide +kernel
theorem dX12_comes_105 : decode cX12_comes 105 = .ok (.getfield 9, 3) := by decide +kernel
theorem dX12_comes_108 : decode cX12_comes 108 = .ok (.iconst 2, 1) := by decide +kernel
theorem dX12_comes_109 : decode cX12_comes 109 = .ok (.iaload, 1) := by decide +kernel
theorem dX12_comes_110 : decode cX12_comes 110 = .ok (.if_icmp .lt 68, 3) := by decide +kernel
theorem dX12_comes_113 : decode cX12_comes 113 = .ok (.aload_n 0, 1) := by decide +kernel
theorem dX12_comes_114 : decode cX12_comes 114 = .ok (.getfield 9, 3) := by decide +kernel
theorem dX12_comes_117 : decode cX12_comes 117 = .ok (.sipush 292, 3) := by decide +kernel
theorem dX12_comes_120 : decode cX12_comes 120 = .ok (.iload_n 1, 1) := by decide +kernel
theorem dX12_comes_121 : decode cX12_comes 121 = .ok (.iadd, 1) := by decide +kernel
theorem dX12_comes_122 : decode cX12_comes 122 = .ok (.iaload, 1) := by decide +kernel
theorem dX12_comes_123 : decode cX12_comes 123 = .ok (.iload_n 2, 1) := by decide +kernel
theorem dX12_comes_124 : decode cX12_comes 124 = .ok (.if_icmp .eq 43, 3) := by decide +kernel
theorem dX12_comes_127 : decode cX12_comes 127 = .ok (.aload_n 0, 1) := by decide +kernel
theorem dX12_comes_128 : decode cX12_comes 128 = .ok (.iconst 5, 1) := by decide +kernel
theorem dX12_comes_129 : decode cX12_comes 129 = .ok (.iload_n 1, 1) := by decide +kernel
theorem dX12_comes_130 : decode cX12_comes 130 = .ok (.iload_n 2, 1) := by decide +kernel
theorem dX12_comes_131 : decode cX12_comes 131 = .ok (.invokevirtual 122, 3) := by decide +kernel
theorem dX12_comes_134 : decode cX12_comes 134 = .ok (.aload_n 0, 1) := by decide +kernel
theorem dX12_comes_135 : decode cX12_comes 135 = .ok (.aload_n 0, 1) := by decide +kernel
theorem dX12_comes_136 : decode cX12_comes 136 = .ok (.iload_n 1, 1) := by decide +kernel
theorem dX12_comes_137 : decode cX12_comes 137 = .ok (.bipush 6, 2) := by decide +kernel
theorem dX12_comes_139 : decode cX12_comes 139 = .ok (.iconst 3, 1) := by decide +kernel
theorem dX12_comes_140 : decode cX12_comes 140 = .ok (.iload_n 2, 1) := by decide +kernel
theorem dX12_comes_141 : decode cX12_comes 141 = .ok (.invokevirtual 86, 3) := by decide +kernel
theorem dX12_comes_144 : decode cX12_comes 144 = .ok (.aload_n 0, 1) := by decide +kernel
theorem dX12_comes_145 : decode cX12_comes 145 = .ok (.getfield 19, 3) := by decide +kernel
theorem dX12_comes_148 : decode cX12_comes 148 = .ok (.iconst 4, 1) := by decide +kernel
theorem dX12_comes_149 : decode cX12_comes 149 = .ok (.iaload, 1) := by decide +kernel
theorem dX12_comes_150 : decode cX12_comes 150 = .ok (.aload_n 0, 1) := by decide +kernel
theorem dX12_comes_151 : decode cX12_comes 151 = .ok (.getfield 19, 3) := by decide +kernel
theorem dX12_comes_154 : decode cX12_comes 154 = .ok (.iconst 5, 1) := by decide +kernel
theorem dX12_comes_155 : decode cX12_comes 155 = .ok (.iaload, 1) := by decide +kernel
theorem dX12_comes_156 : decode cX12_comes 156 = .ok (.aload_n 0, 1) := by decide +kernel
theorem dX12_comes_157 : decode cX12_comes 157 = .ok (.getfield 19, 3) := by decide +kernel
theorem dX12_comes_160 : decode cX12_comes 160 = .ok (.bipush 6, 2) := by decide +kernel
theorem dX12_comes_162 : decode cX12_comes 162 = .ok (.iaload, 1) := by decide +kernel
theorem dX12_comes_163 : decode cX12_comes 163 = .ok (.invokevirtual 104, 3) := by decide +kernel
theorem dX12_comes_166 : decode cX12_comes 166 = .ok (.return_, 1) := by decide +kernel
theorem dX12_comes_167 : decode cX12_comes 167 = .ok (.aload_n 0, 1) := by decide +kernel
theorem dX12_comes_168 : decode cX12_comes 168 = .ok (.iload_n 1, 1) := by decide +kernel
theorem dX12_comes_169 : decode cX12_comes 169 = .ok (.aload_n 0, 1) := by decide +kernel
theorem dX12_comes_170 : decode cX12_comes 170 = .ok (.iload_n 1, 1) := by decide +kernel
theorem dX12_comes_171 : decode cX12_comes 171 = .ok (.iload_n 2, 1) := by decide +kernel
theorem dX12_comes_172 : decode cX12_comes 172 = .ok (.invokevirtual 159, 3) := by decide +kernel
theorem dX12_comes_175 : decode cX12_comes 175 = .ok (.invokevirtual 156, 3) := by decide +kernel
theorem dX12_comes_178 : decode cX12_comes 178 = .ok (.aload_n 0, 1) := by decide +kernel
theorem dX12_comes_179 : decode cX12_comes 179 = .ok (.getfield 9, 3) := by decide +kernel
theorem dX12_comes_182 : decode cX12_comes 182 = .ok (.bipush 14, 2) := by decide +kernel
theorem dX12_comes_184 : decode cX12_comes 184 = .ok (.iload_n 3, 1) := by decide +kernel
theorem dX12_comes_185 : decode cX12_comes 185 = .ok (.iadd, 1) := by decide +kernel
theorem dX12_comes_186 : decode cX12_comes 186 = .ok (.iaload, 1) := by decide +kernel
theorem dX12_comes_187 : decode cX12_comes 187 = .ok (.ifCond .ne 9, 3) := by decide +kernel
theorem dX12_comes_190 : decode cX12_comes 190 = .ok (.aload_n 0, 1) := by decide +kernel
theorem dX12_comes_191 : decode cX12_comes 191 = .ok (.iload_n 1, 1) := by decide +kernel
theorem dX12_comes_192 : decode cX12_comes 192 = .ok (.iload_n 2, 1) := by decide +kernel
theorem dX12_comes_193 : decode cX12_comes 193 = .ok (.invokevirtual 134, 3) := by decide +kernel
theorem dX12_comes_196 : decode cX12_comes 196 = .ok (.aload_n 0, 1) := by decide +kernel
theorem dX12_comes_197 : decode cX12_comes 197 = .ok (.getfield 9, 3) := by decide +kernel
theorem dX12_comes_200 : decode cX12_comes 200 = .ok (.bipush 14, 2) := by decide +kernel
theorem dX12_comes_202 : decode cX12_comes 202 = .ok (.iload_n 3, 1) := by decide +kernel
theorem dX12_comes_203 : decode cX12_comes 203 = .ok (.iadd, 1) := by decide +kernel
theorem dX12_comes_204 : decode cX12_comes 204 = .ok (.dup2, 1) := by decide +kernel
theorem dX12_comes_205 : decode cX12_comes 205 = .ok (.iaload, 1) := by decide +kernel
theorem dX12_comes_206 : decode cX12_comes 206 = .ok (.aload_n 0, 1) := by decide +kernel
theorem dX12_comes_207 : decode cX12_comes 207 = .ok (.getfield 19, 3) := by decide +kernel
theorem dX12_comes_210 : decode cX12_comes 210 = .ok (.iconst 4, 1) := by decide +kernel
theorem dX12_comes_211 : decode cX12_comes 211 = .ok (.iaload, 1) := by decide +kernel
theorem dX12_comes_212 : decode cX12_comes 212 = .ok (.iadd, 1) := by decide +kernel
theorem dX12_comes_213 : decode cX12_comes 213 = .ok (.iastore, 1) := by decide +kernel
theorem dX12_comes_214 : decode cX12_comes 214 = .ok (.aload_n 0, 1) := by decide +kernel
theorem dX12_comes_215 : decode cX12_comes 215 = .ok (.getfield 19, 3) := by decide +kernel
theorem dX12_comes_218 : decode cX12_comes 218 = .ok (.iconst 5, 1) := by decide +kernel
theorem dX12_comes_219 : decode cX12_comes 219 = .ok (.iaload, 1) := by decide +kernel
theorem dX12_comes_220 : decode cX12_comes 220 = .ok (.iconst 1, 1) := by decide +kernel
theorem dX12_comes_221 : decode cX12_comes 221 = .ok (.if_icmp .ne 13, 3) := by decide +kernel
theorem dX12_comes_224 : decode cX12_comes 224 = .ok (.aload_n 0, 1) := by decide +kernel
theorem dX12_comes_225 : decode cX12_comes 225 = .ok (.getfield 9, 3) := by decide +kernel
theorem dX12_comes_228 : decode cX12_comes 228 = .ok (.bipush 70, 2) := by decide +kernel
theorem dX12_comes_230 : decode cX12_comes 230 = .ok (.iload_n 3, 1) := by decide +kernel
theorem dX12_comes_231 : decode cX12_comes 231 = .ok (.iadd, 1) := by decide +kernel
theorem dX12_comes_232 : decode cX12_comes 232 = .ok (.iconst 1, 1) := by decide +kernel
theorem dX12_comes_233 : decode cX12_comes 233 = .ok (.iastore, 1) := by decide +kernel
theorem dX12_comes_234 : decode cX12_comes 234 = .ok (.aload_n 0, 1) := by decide +kernel
theorem dX12_comes_235 : decode cX12_comes 235 = .ok (.getfield 19, 3) := by decide +kernel
theorem dX12_comes_238 : decode cX12_comes 238 = .ok (.bipush 6, 2) := by decide +kernel
theorem dX12_comes_240 : decode cX12_comes 240 = .ok (.iaload, 1) := by decide +kernel
theorem dX12_comes_241 : decode cX12_comes 241 = .ok (.iconst (-1), 1) := by decide +kernel
theorem dX12_comes_242 : decode cX12_comes 242 = .ok (.if_icmp .eq 30, 3) := by decide +kernel
theorem dX12_comes_245 : decode cX12_comes 245 = .ok (.aload_n 0, 1) := by decide +kernel
theorem dX12_comes_246 : decode cX12_comes 246 = .ok (.getfield 9, 3) := by decide +kernel
theorem dX12_comes_249 : decode cX12_comes 249 = .ok (.bipush 126, 2) := by decide +kernel
theorem dX12_comes_251 : decode cX12_comes 251 = .ok (.iload_n 3, 1) := by decide +kernel
theorem dX12_comes_252 : decode cX12_comes 252 = .ok (.iadd, 1) := by decide +kernel
theorem dX12_comes_253 : decode cX12_comes 253 = .ok (.iconst 1, 1) := by decide +kernel
theorem dX12_comes_254 : decode cX12_comes 254 = .ok (.iastore, 1) := by decide +kernel
theorem dX12_comes_255 : decode cX12_comes 255 = .ok (.aload_n 0, 1) := by decide +kernel
theorem dX12_comes_256 : decode cX12_comes 256 = .ok (.getfield 9, 3) := by decide +kernel
theorem dX12_comes_259 : decode cX12_comes 259 = .ok (.sipush 182, 3) := by decide +kernel
theorem dX12_comes_262 : decode cX12_comes 262 = .ok (.iload_n 3, 1) := by decide +kernel
theorem dX12_comes_263 : decode cX12_comes 263 = .ok (.iadd, 1) := by decide +kernel
theorem dX12_comes_264 : decode cX12_comes 264 = .ok (.aload_n 0, 1) := by decide +kernel
theorem dX12_comes_265 : decode cX12_comes 265 = .ok (.getfield 19, 3) := by decide +kernel
theorem dX12_comes_268 : decode cX12_comes 268 = .ok (.bipush 6, 2) := by decide +kernel
theorem dX12_comes_270 : decode cX12_comes 270 = .ok (.iaload, 1) := by decide +kernel
theorem dX12_comes_271 : decode cX12_comes 271 = .ok (.iastore, 1) := by decide +kernel
theorem dX12_comes_272 : decode cX12_comes 272 = .ok (.iload_n 1, 1) := by decide +kernel
theorem dX12_comes_273 : decode cX12_comes 273 = .ok (.bipush 6, 2) := by decide +kernel
theorem dX12_comes_275 : decode cX12_comes 275 = .ok (.if_icmp .eq 41, 3) := by decide +kernel
theorem dX12_comes_278 : decode cX12_comes 278 = .ok (.aload_n 0, 1) := by decide +kernel
theorem dX12_comes_279 : decode cX12_comes 279 = .ok (.getfield 9, 3) := by decide +kernel
theorem dX12_comes_282 : decode cX12_comes 282 = .ok (.sipush 292, 3) := by decide +kernel
theorem dX12_comes_285 : decode cX12_comes 285 = .ok (.iload_n 1, 1) := by decide +kernel
theorem dX12_comes_286 : decode cX12_comes 286 = .ok (.iadd, 1) := by decide +kernel
theorem dX12_comes_287 : decode cX12_comes 287 = .ok (.iaload, 1) := by decide +kernel
theorem dX12_comes_288 : decode cX12_comes 288 = .ok (.iload_n 2, 1) := by decide +kernel
theorem dX12_comes_289 : decode cX12_comes 289 = .ok (.if_icmp .ne 27, 3) := by decide +kernel
theorem dX12_comes_292 : decode cX12_comes 292 = .ok (.aload_n 0, 1) := by decide +kernel
theorem dX12_comes_293 : decode cX12_comes 293 = .ok (.iload_n 1, 1) := by decide +kernel
theorem dX12_comes_294 : decode cX12_comes 294 = .ok (.iload_n 2, 1) := by decide +kernel
theorem dX12_comes_295 : decode cX12_comes 295 = .ok (.aload_n 0, 1) := by decide +kernel
theorem dX12_comes_296 : decode cX12_comes 296 = .ok (.getfield 9, 3) := by decide +kernel
theorem dX12_comes_299 : decode cX12_comes 299 = .ok (.sipush 298, 3) := by decide +kernel
theorem dX12_comes_302 : decode cX12_comes 302 = .ok (.iload_n 1, 1) := by decide +kernel
theorem dX12_comes_303 : decode cX12_comes 303 = .ok (.iadd, 1) := by decide +kernel
theorem dX12_comes_304 : decode cX12_comes 304 = .ok (.iaload, 1) := by decide +kernel
theorem dX12_comes_305 : decode cX12_comes 305 = .ok (.invokevirtual 143, 3) := by decide +kernel
theorem dX12_comes_308 : decode cX12_comes 308 = .ok (.ifCond .eq 8, 3) := by decide +kernel
theorem dX12_comes_311 : decode cX12_comes 311 = .ok (.aload_n 0, 1) := by decide +kernel
theorem dX12_comes_312 : decode cX12_comes 312 = .ok (.iload_n 1, 1) := by decide +kernel
theorem dX12_comes_313 : decode cX12_comes 313 = .ok (.invokevirtual 162, 3) := by decide +kernel
theorem dX12_comes_316 : decode cX12_comes 316 = .ok (.aload_n 0, 1) := by decide +kernel
theorem dX12_comes_317 : decode cX12_comes 317 = .ok (.iload_n 1, 1) := by decide +kernel
theorem dX12_comes_318 : decode cX12_comes 318 = .ok (.iload_n 2, 1) := by decide +kernel
theorem dX12_comes_319 : decode cX12_comes 319 = .ok (.invokevirtual 128, 3) := by decide +kernel
theorem dX12_comes_322 : decode cX12_comes 322 = .ok (.return_, 1) := by decide +kernel
def xX12_comes_316   (l1 : Int32) (l2 : Int32) (M : j_M) : Option (j_M) := obv (xX12_settles l1 l2 M) fun M1 => some M1
set_option maxRecDepth 20000 in
set_option maxHeartbeats 2000000 in
theorem tX12_comes_316    (l1 : Int32) (l2 : Int32) (M : j_M) : J (ρ := j_M) yX12_comes cX12_comes 4 none 6 144 j_ev 316 [(0, .inr (17, 0, 200)), (1, .inl (l1)), (2, .inl (l2))] [] M (xX12_comes_316  l1 l2 M) := by
  unfold xX12_comes_316
  refine K_aload_n (q := 317) 0 dX12_comes_316 rfl rfl rfl ?_
  refine K_iload_n (q := 318) 1 dX12_comes_317 rfl rfl rfl ?_
  refine K_iload_n (q := 319) 2 dX12_comes_318 rfl rfl rfl ?_
  refine K_cvv (q := 322) [.inl (l1), .inl (l2)] dX12_comes_319 cb_X12_settles cvRX12_128 rc_7 (show (17 : Nat) ≠ 0 by decide) rfl (Nat.le_of_ble_eq_true rfl) ⟨by decide, by decide⟩ (Nat.le_of_ble_eq_true rfl) rfl (tX12_settles l1 l2 M) rfl (fun M1 => ?_)
  exact J_vret dX12_comes_322
def xX12_comes_272   (l1 : Int32) (l2 : Int32) (M : j_M) : Option (j_M) := (if l1 = (nI 6) then xX12_comes_316  l1 l2 M else gd ((nI 292) + l1) 7460 (oli (M 201 (ix ((nI 292) + l1))) fun v1 => (if v1 = l2 then gd ((nI 298) + l1) 7460 (oli (M 201 (ix ((nI 298) + l1))) fun v2 => obi (xX12_isHit l1 l2 v2 M) fun v4 M3 => (if v4 = (0 : Int32) then xX12_comes_316  l1 l2 M3 else obv (xX12_ends l1 M3) fun M5 => xX12_comes_316  l1 l2 M5)) else xX12_comes_316  l1 l2 M)))
set_option maxRecDepth 20000 in
set_option maxHeartbeats 2000000 in
theorem tX12_comes_272    (l1 : Int32) (l2 : Int32) (M : j_M) : J (ρ := j_M) yX12_comes cX12_comes 4 none 6 144 j_ev 272 [(0, .inr (17, 0, 200)), (1, .inl (l1)), (2, .inl (l2))] [] M (xX12_comes_272  l1 l2 M) := by
  unfold xX12_comes_272
  refine K_iload_n (q := 273) 1 dX12_comes_272 rfl rfl rfl ?_
  refine K_bipush (q := 275) (v := nI 6) dX12_comes_273 rfl rfl ?_
  refine K_icmp_eq (q := 278) (tgt := 316) dX12_comes_275 rfl ?_ rfl ?_
  · exact J_sub [0, 1, 2] (tX12_comes_316  l1 l2 M) rfl
  · refine K_aload_n (q := 279) 0 dX12_comes_278 rfl rfl rfl ?_
    refine K_getR (q := 282) (ci := 7) (a2 := 201) 0 dX12_comes_279 fRX12_9 rfl rfl (by decide) rfl rfl ?_
    refine K_sipush (q := 285) (v := nI 292) dX12_comes_282 rfl rfl ?_
    refine K_iload_n (q := 286) 1 dX12_comes_285 rfl rfl rfl ?_
    refine K_iadd (q := 287) dX12_comes_286 rfl ?_
    refine K_iald (q := 288) dX12_comes_287 rfl (fun v1 => ?_)
    refine K_iload_n (q := 289) 2 dX12_comes_288 rfl rfl rfl ?_
    refine K_icmp_ne (q := 292) (tgt := 316) dX12_comes_289 rfl ?_ rfl ?_
    · exact J_sub [0, 1, 2] (tX12_comes_316  l1 l2 M) rfl
    · refine K_aload_n (q := 293) 0 dX12_comes_292 rfl rfl rfl ?_
      refine K_iload_n (q := 294) 1 dX12_comes_293 rfl rfl rfl ?_
      refine K_iload_n (q := 295) 2 dX12_comes_294 rfl rfl rfl ?_
      refine K_aload_n (q := 296) 0 dX12_comes_295 rfl rfl rfl ?_
      refine K_getR (q := 299) (ci := 7) (a2 := 201) 0 dX12_comes_296 fRX12_9 rfl rfl (by decide) rfl rfl ?_
      refine K_sipush (q := 302) (v := nI 298) dX12_comes_299 rfl rfl ?_
      refine K_iload_n (q := 303) 1 dX12_comes_302 rfl rfl rfl ?_
      refine K_iadd (q := 304) dX12_comes_303 rfl ?_
      refine K_iald (q := 305) dX12_comes_304 rfl (fun v2 => ?_)
      refine K_cvi (q := 308) [.inl (l1), .inl (l2), .inl (v2)] dX12_comes_305 cb_X12_isHit cvRX12_143 rc_7 (show (17 : Nat) ≠ 0 by decide) rfl (Nat.le_of_ble_eq_true rfl) ⟨by decide, by decide⟩ (Nat.le_of_ble_eq_true rfl) rfl (tX12_isHit l1 l2 v2 M) rfl (fun v4 M3 => ?_)
      refine K_if_eq (q := 311) (tgt := 316) dX12_comes_308 rfl ?_ rfl ?_
      · exact J_sub [0, 1, 2] (tX12_comes_316  l1 l2 M3) rfl
      · refine K_aload_n (q := 312) 0 dX12_comes_311 rfl rfl rfl ?_
        refine K_iload_n (q := 313) 1 dX12_comes_312 rfl rfl rfl ?_
        refine K_cvv (q := 316) [.inl (l1)] dX12_comes_313 cb_X12_ends cvRX12_162 rc_7 (show (17 : Nat) ≠ 0 by decide) rfl (Nat.le_of_ble_eq_true rfl) ⟨by decide, by decide⟩ (Nat.le_of_ble_eq_true rfl) rfl (tX12_ends l1 M3) rfl (fun M5 => ?_)
        exact J_sub [0, 1, 2] (tX12_comes_316  l1 l2 M5) rfl
def xX12_comes_234   (l1 : Int32) (l2 : Int32) (l3 : Int32) (M : j_M) : Option (j_M) := gd (nI 6) 9 (oli (M 204 (ix (nI 6))) fun v1 => (if v1 = (-1 : Int32) then xX12_comes_272  l1 l2 M else gd ((nI 126) + l3) 7460 (oml (mw M 201 (ix ((nI 126) + l3)) (nI 1)) fun M2 => gd (nI 6) 9 (oli (M2 204 (ix (nI 6))) fun v3 => gd ((nI 182) + l3) 7460 (oml (mw M2 201 (ix ((nI 182) + l3)) v3) fun M4 => xX12_comes_272  l1 l2 M4)))))
set_option maxRecDepth 20000 in
set_option maxHeartbeats 2000000 in
theorem tX12_comes_234    (l1 : Int32) (l2 : Int32) (l3 : Int32) (M : j_M) : J (ρ := j_M) yX12_comes cX12_comes 4 none 6 144 j_ev 234 [(0, .inr (17, 0, 200)), (1, .inl (l1)), (2, .inl (l2)), (3, .inl (l3))] [] M (xX12_comes_234  l1 l2 l3 M) := by
  unfold xX12_comes_234
  refine K_aload_n (q := 235) 0 dX12_comes_234 rfl rfl rfl ?_
  refine K_getR (q := 238) (ci := 7) (a2 := 204) 4 dX12_comes_235 fRX12_19 rfl rfl (by decide) rfl rfl ?_
  refine K_bipush (q := 240) (v := nI 6) dX12_comes_238 rfl rfl ?_
  refine K_iald (q := 241) dX12_comes_240 rfl (fun v1 => ?_)
  refine K_iconst (q := 242) (v := -1) dX12_comes_241 rfl rfl ?_
  refine K_icmp_eq (q := 245) (tgt := 272) dX12_comes_242 rfl ?_ rfl ?_
  · exact J_sub [0, 1, 2] (tX12_comes_272  l1 l2 M) rfl
  · refine K_aload_n (q := 246) 0 dX12_comes_245 rfl rfl rfl ?_
    refine K_getR (q := 249) (ci := 7) (a2 := 201) 0 dX12_comes_246 fRX12_9 rfl rfl (by decide) rfl rfl ?_
    refine K_bipush (q := 251) (v := nI 126) dX12_comes_249 rfl rfl ?_
    refine K_iload_n (q := 252) 3 dX12_comes_251 rfl rfl rfl ?_
    refine K_iadd (q := 253) dX12_comes_252 rfl ?_
    refine K_iconst (q := 254) (v := nI 1) dX12_comes_253 rfl rfl ?_
    refine K_iast (q := 255) dX12_comes_254 rfl (fun M2 => ?_)
    refine K_aload_n (q := 256) 0 dX12_comes_255 rfl rfl rfl ?_
    refine K_getR (q := 259) (ci := 7) (a2 := 201) 0 dX12_comes_256 fRX12_9 rfl rfl (by decide) rfl rfl ?_
    refine K_sipush (q := 262) (v := nI 182) dX12_comes_259 rfl rfl ?_
    refine K_iload_n (q := 263) 3 dX12_comes_262 rfl rfl rfl ?_
    refine K_iadd (q := 264) dX12_comes_263 rfl ?_
    refine K_aload_n (q := 265) 0 dX12_comes_264 rfl rfl rfl ?_
    refine K_getR (q := 268) (ci := 7) (a2 := 204) 4 dX12_comes_265 fRX12_19 rfl rfl (by decide) rfl rfl ?_
    refine K_bipush (q := 270) (v := nI 6) dX12_comes_268 rfl rfl ?_
    refine K_iald (q := 271) dX12_comes_270 rfl (fun v3 => ?_)
    refine K_iast (q := 272) dX12_comes_271 rfl (fun M4 => ?_)
    exact J_sub [0, 1, 2] (tX12_comes_272  l1 l2 M4) rfl
def xX12_comes_196   (l1 : Int32) (l2 : Int32) (l3 : Int32) (M : j_M) : Option (j_M) := gd ((nI 14) + l3) 7460 (oli (M 201 (ix ((nI 14) + l3))) fun v1 => gd (nI 4) 9 (oli (M 204 (ix (nI 4))) fun v2 => gd ((nI 14) + l3) 7460 (oml (mw M 201 (ix ((nI 14) + l3)) (v1 + v2)) fun M3 => gd (nI 5) 9 (oli (M3 204 (ix (nI 5))) fun v4 => (if v4 = (nI 1) then gd ((nI 70) + l3) 7460 (oml (mw M3 201 (ix ((nI 70) + l3)) (nI 1)) fun M5 => xX12_comes_234  l1 l2 l3 M5) else xX12_comes_234  l1 l2 l3 M3)))))
set_option maxRecDepth 20000 in
set_option maxHeartbeats 2000000 in
theorem tX12_comes_196    (l1 : Int32) (l2 : Int32) (l3 : Int32) (M : j_M) : J (ρ := j_M) yX12_comes cX12_comes 4 none 6 144 j_ev 196 [(0, .inr (17, 0, 200)), (1, .inl (l1)), (2, .inl (l2)), (3, .inl (l3))] [] M (xX12_comes_196  l1 l2 l3 M) := by
  unfold xX12_comes_196
  refine K_aload_n (q := 197) 0 dX12_comes_196 rfl rfl rfl ?_
  refine K_getR (q := 200) (ci := 7) (a2 := 201) 0 dX12_comes_197 fRX12_9 rfl rfl (by decide) rfl rfl ?_
  refine K_bipush (q := 202) (v := nI 14) dX12_comes_200 rfl rfl ?_
  refine K_iload_n (q := 203) 3 dX12_comes_202 rfl rfl rfl ?_
  refine K_iadd (q := 204) dX12_comes_203 rfl ?_
  refine K_dup2 (q := 205) dX12_comes_204 rfl ?_
  refine K_iald (q := 206) dX12_comes_205 rfl (fun v1 => ?_)
  refine K_aload_n (q := 207) 0 dX12_comes_206 rfl rfl rfl ?_
  refine K_getR (q := 210) (ci := 7) (a2 := 204) 4 dX12_comes_207 fRX12_19 rfl rfl (by decide) rfl rfl ?_
  refine K_iconst (q := 211) (v := nI 4) dX12_comes_210 rfl rfl ?_
  refine K_iald (q := 212) dX12_comes_211 rfl (fun v2 => ?_)
  refine K_iadd (q := 213) dX12_comes_212 rfl ?_
  refine K_iast (q := 214) dX12_comes_213 rfl (fun M3 => ?_)
  refine K_aload_n (q := 215) 0 dX12_comes_214 rfl rfl rfl ?_
  refine K_getR (q := 218) (ci := 7) (a2 := 204) 4 dX12_comes_215 fRX12_19 rfl rfl (by decide) rfl rfl ?_
  refine K_iconst (q := 219) (v := nI 5) dX12_comes_218 rfl rfl ?_
  refine K_iald (q := 220) dX12_comes_219 rfl (fun v4 => ?_)
  refine K_iconst (q := 221) (v := nI 1) dX12_comes_220 rfl rfl ?_
  refine K_icmp_ne (q := 224) (tgt := 234) dX12_comes_221 rfl ?_ rfl ?_
  · exact J_sub [0, 1, 2, 3] (tX12_comes_234  l1 l2 l3 M3) rfl
  · refine K_aload_n (q := 225) 0 dX12_comes_224 rfl rfl rfl ?_
    refine K_getR (q := 228) (ci := 7) (a2 := 201) 0 dX12_comes_225 fRX12_9 rfl rfl (by decide) rfl rfl ?_
    refine K_bipush (q := 230) (v := nI 70) dX12_comes_228 rfl rfl ?_
    refine K_iload_n (q := 231) 3 dX12_comes_230 rfl rfl rfl ?_
    refine K_iadd (q := 232) dX12_comes_231 rfl ?_
    refine K_iconst (q := 233) (v := nI 1) dX12_comes_232 rfl rfl ?_
    refine K_iast (q := 234) dX12_comes_233 rfl (fun M5 => ?_)
    exact J_sub [0, 1, 2, 3] (tX12_comes_234  l1 l2 l3 M5) rfl
def xX12_comes_178   (l1 : Int32) (l2 : Int32) (l3 : Int32) (M : j_M) : Option (j_M) := gd ((nI 14) + l3) 7460 (oli (M 201 (ix ((nI 14) + l3))) fun v1 => (if v1 = (0 : Int32) then obv (xX12_uses l1 l2 M) fun M2 => xX12_comes_196  l1 l2 l3 M2 else xX12_comes_196  l1 l2 l3 M))
set_option maxRecDepth 20000 in
set_option maxHeartbeats 2000000 in
theorem tX12_comes_178    (l1 : Int32) (l2 : Int32) (l3 : Int32) (M : j_M) : J (ρ := j_M) yX12_comes cX12_comes 4 none 6 144 j_ev 178 [(0, .inr (17, 0, 200)), (1, .inl (l1)), (2, .inl (l2)), (3, .inl (l3))] [] M (xX12_comes_178  l1 l2 l3 M) := by
  unfold xX12_comes_178
  refine K_aload_n (q := 179) 0 dX12_comes_178 rfl rfl rfl ?_
  refine K_getR (q := 182) (ci := 7) (a2 := 201) 0 dX12_comes_179 fRX12_9 rfl rfl (by decide) rfl rfl ?_
  refine K_bipush (q := 184) (v := nI 14) dX12_comes_182 rfl rfl ?_
  refine K_iload_n (q := 185) 3 dX12_comes_184 rfl rfl rfl ?_
  refine K_iadd (q := 186) dX12_comes_185 rfl ?_
  refine K_iald (q := 187) dX12_comes_186 rfl (fun v1 => ?_)
  refine K_if_ne (q := 190) (tgt := 196) dX12_comes_187 rfl ?_ rfl ?_
  · exact J_sub [0, 1, 2, 3] (tX12_comes_196  l1 l2 l3 M) rfl
  · refine K_aload_n (q := 191) 0 dX12_comes_190 rfl rfl rfl ?_
    refine K_iload_n (q := 192) 1 dX12_comes_191 rfl rfl rfl ?_
    refine K_iload_n (q := 193) 2 dX12_comes_192 rfl rfl rfl ?_
    refine K_cvv (q := 196) [.inl (l1), .inl (l2)] dX12_comes_193 cb_X12_uses cvRX12_134 rc_7 (show (17 : Nat) ≠ 0 by decide) rfl (Nat.le_of_ble_eq_true rfl) ⟨by decide, by decide⟩ (Nat.le_of_ble_eq_true rfl) rfl (tX12_uses l1 l2 M) rfl (fun M2 => ?_)
    exact J_sub [0, 1, 2, 3] (tX12_comes_196  l1 l2 l3 M2) rfl
def xX12_comes_82   (l1 : Int32) (l2 : Int32) (l3 : Int32) (M : j_M) : Option (j_M) := gd ((nI 14) + l3) 7460 (oli (M 201 (ix ((nI 14) + l3))) fun v1 => (if v1 = (0 : Int32) then gd ((nI 238) + l1) 7460 (oli (M 201 (ix ((nI 238) + l1))) fun v2 => gd (nI 2) 7460 (oli (M 201 (ix (nI 2))) fun v3 => (if v2 < v3 then xX12_comes_178  l1 l2 l3 M else gd ((nI 292) + l1) 7460 (oli (M 201 (ix ((nI 292) + l1))) fun v4 => (if v4 = l2 then obi (xX12_eldest l1 l2 M) fun v6 M5 => obv (xX12_evicts l1 v6 M5) fun M7 => xX12_comes_178  l1 l2 l3 M7 else obv (xX12_notes (nI 5) l1 l2 M) fun M8 => obi (xX12_sends l1 (nI 6) (nI 3) l2 M8) fun v10 M9 => gd (nI 4) 9 (oli (M9 204 (ix (nI 4))) fun v11 => gd (nI 5) 9 (oli (M9 204 (ix (nI 5))) fun v12 => gd (nI 6) 9 (oli (M9 204 (ix (nI 6))) fun v13 => obv (xX12_brings v10 v11 v12 v13 M9) fun M14 => some M14)))))))) else xX12_comes_178  l1 l2 l3 M))
set_option maxRecDepth 20000 in
set_option maxHeartbeats 2000000 in
theorem tX12_comes_82    (l1 : Int32) (l2 : Int32) (l3 : Int32) (M : j_M) : J (ρ := j_M) yX12_comes cX12_comes 4 none 6 144 j_ev 82 [(0, .inr (17, 0, 200)), (1, .inl (l1)), (2, .inl (l2)), (3, .inl (l3))] [] M (xX12_comes_82  l1 l2 l3 M) := by
  unfold xX12_comes_82
  refine K_aload_n (q := 83) 0 dX12_comes_82 rfl rfl rfl ?_
  refine K_getR (q := 86) (ci := 7) (a2 := 201) 0 dX12_comes_83 fRX12_9 rfl rfl (by decide) rfl rfl ?_
  refine K_bipush (q := 88) (v := nI 14) dX12_comes_86 rfl rfl ?_
  refine K_iload_n (q := 89) 3 dX12_comes_88 rfl rfl rfl ?_
  refine K_iadd (q := 90) dX12_comes_89 rfl ?_
  refine K_iald (q := 91) dX12_comes_90 rfl (fun v1 => ?_)
  refine K_if_ne (q := 94) (tgt := 178) dX12_comes_91 rfl ?_ rfl ?_
  · exact J_sub [0, 1, 2, 3] (tX12_comes_178  l1 l2 l3 M) rfl
  · refine K_aload_n (q := 95) 0 dX12_comes_94 rfl rfl rfl ?_
    refine K_getR (q := 98) (ci := 7) (a2 := 201) 0 dX12_comes_95 fRX12_9 rfl rfl (by decide) rfl rfl ?_
    refine K_sipush (q := 101) (v := nI 238) dX12_comes_98 rfl rfl ?_
    refine K_iload_n (q := 102) 1 dX12_comes_101 rfl rfl rfl ?_
    refine K_iadd (q := 103) dX12_comes_102 rfl ?_
    refine K_iald (q := 104) dX12_comes_103 rfl (fun v2 => ?_)
    refine K_aload_n (q := 105) 0 dX12_comes_104 rfl rfl rfl ?_
    refine K_getR (q := 108) (ci := 7) (a2 := 201) 0 dX12_comes_105 fRX12_9 rfl rfl (by decide) rfl rfl ?_
    refine K_iconst (q := 109) (v := nI 2) dX12_comes_108 rfl rfl ?_
    refine K_iald (q := 110) dX12_comes_109 rfl (fun v3 => ?_)
    refine K_icmp_lt (q := 113) (tgt := 178) dX12_comes_110 rfl ?_ rfl ?_
    · exact J_sub [0, 1, 2, 3] (tX12_comes_178  l1 l2 l3 M) rfl
    · refine K_aload_n (q := 114) 0 dX12_comes_113 rfl rfl rfl ?_
      refine K_getR (q := 117) (ci := 7) (a2 := 201) 0 dX12_comes_114 fRX12_9 rfl rfl (by decide) rfl rfl ?_
      refine K_sipush (q := 120) (v := nI 292) dX12_comes_117 rfl rfl ?_
      refine K_iload_n (q := 121) 1 dX12_comes_120 rfl rfl rfl ?_
      refine K_iadd (q := 122) dX12_comes_121 rfl ?_
      refine K_iald (q := 123) dX12_comes_122 rfl (fun v4 => ?_)
      refine K_iload_n (q := 124) 2 dX12_comes_123 rfl rfl rfl ?_
      refine K_icmp_eq (q := 127) (tgt := 167) dX12_comes_124 rfl ?_ rfl ?_
      · refine K_aload_n (q := 168) 0 dX12_comes_167 rfl rfl rfl ?_
        refine K_iload_n (q := 169) 1 dX12_comes_168 rfl rfl rfl ?_
        refine K_aload_n (q := 170) 0 dX12_comes_169 rfl rfl rfl ?_
        refine K_iload_n (q := 171) 1 dX12_comes_170 rfl rfl rfl ?_
        refine K_iload_n (q := 172) 2 dX12_comes_171 rfl rfl rfl ?_
        refine K_cvi (q := 175) [.inl (l1), .inl (l2)] dX12_comes_172 cb_X12_eldest cvRX12_159 rc_7 (show (17 : Nat) ≠ 0 by decide) rfl (Nat.le_of_ble_eq_true rfl) ⟨by decide, by decide⟩ (Nat.le_of_ble_eq_true rfl) rfl (tX12_eldest l1 l2 M) rfl (fun v6 M5 => ?_)
        refine K_cvv (q := 178) [.inl (l1), .inl (v6)] dX12_comes_175 cb_X12_evicts cvRX12_156 rc_7 (show (17 : Nat) ≠ 0 by decide) rfl (Nat.le_of_ble_eq_true rfl) ⟨by decide, by decide⟩ (Nat.le_of_ble_eq_true rfl) rfl (tX12_evicts l1 v6 M5) rfl (fun M7 => ?_)
        exact J_sub [0, 1, 2, 3] (tX12_comes_178  l1 l2 l3 M7) rfl
      · refine K_aload_n (q := 128) 0 dX12_comes_127 rfl rfl rfl ?_
        refine K_iconst (q := 129) (v := nI 5) dX12_comes_128 rfl rfl ?_
        refine K_iload_n (q := 130) 1 dX12_comes_129 rfl rfl rfl ?_
        refine K_iload_n (q := 131) 2 dX12_comes_130 rfl rfl rfl ?_
        refine K_cvv (q := 134) [.inl ((nI 5)), .inl (l1), .inl (l2)] dX12_comes_131 cb_X12_notes cvRX12_122 rc_7 (show (17 : Nat) ≠ 0 by decide) rfl (Nat.le_of_ble_eq_true rfl) ⟨by decide, by decide⟩ (Nat.le_of_ble_eq_true rfl) rfl (tX12_notes (nI 5) l1 l2 M) rfl (fun M8 => ?_)
        refine K_aload_n (q := 135) 0 dX12_comes_134 rfl rfl rfl ?_
        refine K_aload_n (q := 136) 0 dX12_comes_135 rfl rfl rfl ?_
        refine K_iload_n (q := 137) 1 dX12_comes_136 rfl rfl rfl ?_
        refine K_bipush (q := 139) (v := nI 6) dX12_comes_137 rfl rfl ?_
        refine K_iconst (q := 140) (v := nI 3) dX12_comes_139 rfl rfl ?_
        refine K_iload_n (q := 141) 2 dX12_comes_140 rfl rfl rfl ?_
        refine K_cvi (q := 144) [.inl (l1), .inl ((nI 6)), .inl ((nI 3)), .inl (l2)] dX12_comes_141 cb_X12_sends cvRX12_86 rc_7 (show (17 : Nat) ≠ 0 by decide) rfl (Nat.le_of_ble_eq_true rfl) ⟨by decide, by decide⟩ (Nat.le_of_ble_eq_true rfl) rfl (tX12_sends l1 (nI 6) (nI 3) l2 M8) rfl (fun v10 M9 => ?_)
        refine K_aload_n (q := 145) 0 dX12_comes_144 rfl rfl rfl ?_
        refine K_getR (q := 148) (ci := 7) (a2 := 204) 4 dX12_comes_145 fRX12_19 rfl rfl (by decide) rfl rfl ?_
        refine K_iconst (q := 149) (v := nI 4) dX12_comes_148 rfl rfl ?_
        refine K_iald (q := 150) dX12_comes_149 rfl (fun v11 => ?_)
        refine K_aload_n (q := 151) 0 dX12_comes_150 rfl rfl rfl ?_
        refine K_getR (q := 154) (ci := 7) (a2 := 204) 4 dX12_comes_151 fRX12_19 rfl rfl (by decide) rfl rfl ?_
        refine K_iconst (q := 155) (v := nI 5) dX12_comes_154 rfl rfl ?_
        refine K_iald (q := 156) dX12_comes_155 rfl (fun v12 => ?_)
        refine K_aload_n (q := 157) 0 dX12_comes_156 rfl rfl rfl ?_
        refine K_getR (q := 160) (ci := 7) (a2 := 204) 4 dX12_comes_157 fRX12_19 rfl rfl (by decide) rfl rfl ?_
        refine K_bipush (q := 162) (v := nI 6) dX12_comes_160 rfl rfl ?_
        refine K_iald (q := 163) dX12_comes_162 rfl (fun v13 => ?_)
        refine K_cvv (q := 166) [.inl (v10), .inl (v11), .inl (v12), .inl (v13)] dX12_comes_163 cb_X12_brings cvRX12_104 rc_7 (show (17 : Nat) ≠ 0 by decide) rfl (Nat.le_of_ble_eq_true rfl) ⟨by decide, by decide⟩ (Nat.le_of_ble_eq_true rfl) rfl (tX12_brings v10 v11 v12 v13 M9) rfl (fun M14 => ?_)
        exact J_vret dX12_comes_166
def xX12_comes_49   (l1 : Int32) (l2 : Int32) (l3 : Int32) (s1 : Int32) (s0 : Int32) (M : j_M) : Option (j_M) := gd s1 7460 (oml (mw M 201 (ix s1) s0) fun M1 => gd (nI 0) 9 (oli (M1 204 (ix (nI 0))) fun v2 => (if v2 = (nI 6) then xX12_comes_82  l1 l2 l3 M1 else gd ((nI 6766) + l3) 7460 (oli (M1 201 (ix ((nI 6766) + l3))) fun v3 => gd (nI 0) 9 (oli (M1 204 (ix (nI 0))) fun v4 => gd ((nI 6766) + l3) 7460 (oml (mw M1 201 (ix ((nI 6766) + l3)) (v3 ||| ((nI 1) <<< (v4 &&& 31)))) fun M5 => xX12_comes_82  l1 l2 l3 M5))))))
set_option maxRecDepth 20000 in
set_option maxHeartbeats 2000000 in
theorem tX12_comes_49    (l1 : Int32) (l2 : Int32) (l3 : Int32) (s1 : Int32) (s0 : Int32) (M : j_M) : J (ρ := j_M) yX12_comes cX12_comes 4 none 6 144 j_ev 49 [(0, .inr (17, 0, 200)), (1, .inl (l1)), (2, .inl (l2)), (3, .inl (l3))] [.inl (s0), .inl (s1), .inr (1, 7460, 201)] M (xX12_comes_49  l1 l2 l3 s1 s0 M) := by
  unfold xX12_comes_49
  refine K_iast (q := 50) dX12_comes_49 rfl (fun M1 => ?_)
  refine K_aload_n (q := 51) 0 dX12_comes_50 rfl rfl rfl ?_
  refine K_getR (q := 54) (ci := 7) (a2 := 204) 4 dX12_comes_51 fRX12_19 rfl rfl (by decide) rfl rfl ?_
  refine K_iconst (q := 55) (v := nI 0) dX12_comes_54 rfl rfl ?_
  refine K_iald (q := 56) dX12_comes_55 rfl (fun v2 => ?_)
  refine K_bipush (q := 58) (v := nI 6) dX12_comes_56 rfl rfl ?_
  refine K_icmp_eq (q := 61) (tgt := 82) dX12_comes_58 rfl ?_ rfl ?_
  · exact J_sub [0, 1, 2, 3] (tX12_comes_82  l1 l2 l3 M1) rfl
  · refine K_aload_n (q := 62) 0 dX12_comes_61 rfl rfl rfl ?_
    refine K_getR (q := 65) (ci := 7) (a2 := 201) 0 dX12_comes_62 fRX12_9 rfl rfl (by decide) rfl rfl ?_
    refine K_sipush (q := 68) (v := nI 6766) dX12_comes_65 rfl rfl ?_
    refine K_iload_n (q := 69) 3 dX12_comes_68 rfl rfl rfl ?_
    refine K_iadd (q := 70) dX12_comes_69 rfl ?_
    refine K_dup2 (q := 71) dX12_comes_70 rfl ?_
    refine K_iald (q := 72) dX12_comes_71 rfl (fun v3 => ?_)
    refine K_iconst (q := 73) (v := nI 1) dX12_comes_72 rfl rfl ?_
    refine K_aload_n (q := 74) 0 dX12_comes_73 rfl rfl rfl ?_
    refine K_getR (q := 77) (ci := 7) (a2 := 204) 4 dX12_comes_74 fRX12_19 rfl rfl (by decide) rfl rfl ?_
    refine K_iconst (q := 78) (v := nI 0) dX12_comes_77 rfl rfl ?_
    refine K_iald (q := 79) dX12_comes_78 rfl (fun v4 => ?_)
    refine K_ishl (q := 80) dX12_comes_79 rfl ?_
    refine K_ior (q := 81) dX12_comes_80 rfl ?_
    refine K_iast (q := 82) dX12_comes_81 rfl (fun M5 => ?_)
    exact J_sub [0, 1, 2, 3] (tX12_comes_82  l1 l2 l3 M5) rfl
def xX12_comes  (l1 : Int32) (M : j_M) : Option (j_M) := gd (nI 3) 9 (oli (M 204 (ix (nI 3))) fun v1 => obi (xX12_place l1 v1 M) fun v3 M2 => (if l1 = (nI 6) then xX12_comes_196  l1 v1 v3 M2 else gd (nI 0) 9 (oli (M2 204 (ix (nI 0))) fun v4 => (if v4 = (nI 6) then xX12_comes_49  l1 v1 v3 ((nI 538) + v3) (-1 : Int32) M2 else gd (nI 0) 9 (oli (M2 204 (ix (nI 0))) fun v5 => xX12_comes_49  l1 v1 v3 ((nI 538) + v3) v5 M2)))))
set_option maxRecDepth 20000 in
set_option maxHeartbeats 2000000 in
theorem tX12_comes  (l1 : Int32) (M : j_M) : J (ρ := j_M) yX12_comes cX12_comes 4 none 6 144 j_ev 0 [(0, .inr (17, 0, 200)), (1, .inl (l1))] [] M (xX12_comes  l1 M) := by
  unfold xX12_comes
  refine K_aload_n (q := 1) 0 dX12_comes_0 rfl rfl rfl ?_
  refine K_getR (q := 4) (ci := 7) (a2 := 204) 4 dX12_comes_1 fRX12_19 rfl rfl (by decide) rfl rfl ?_
  refine K_iconst (q := 5) (v := nI 3) dX12_comes_4 rfl rfl ?_
  refine K_iald (q := 6) dX12_comes_5 rfl (fun v1 => ?_)
  refine K_istore_n (q := 7) (ll' := [(2, .inl (v1)), (0, .inr (17, 0, 200)), (1, .inl (l1))]) dX12_comes_6 rfl (by decide) rfl rfl ?_
  refine K_iload_n (q := 8) 2 dX12_comes_7 rfl rfl rfl ?_
  refine K_iload_n (q := 9) 0 dX12_comes_8 rfl rfl rfl ?_
  refine K_csi (q := 12) [.inl (l1), .inl (v1)] dX12_comes_9 cb_X12_place cvRX12_61 rfl (Nat.le_of_ble_eq_true rfl) ⟨by decide, by decide⟩ (Nat.le_of_ble_eq_true rfl) rfl (tX12_place l1 v1 M) rfl (fun v3 M2 => ?_)
  refine K_istore_n (q := 13) (ll' := [(3, .inl (v3)), (2, .inl (v1)), (0, .inr (17, 0, 200)), (1, .inl (l1))]) dX12_comes_12 rfl (by decide) rfl rfl ?_
  refine K_iload_n (q := 14) 3 dX12_comes_13 rfl rfl rfl ?_
  refine K_bipush (q := 16) (v := nI 6) dX12_comes_14 rfl rfl ?_
  refine K_icmp_eq (q := 19) (tgt := 196) dX12_comes_16 rfl ?_ rfl ?_
  · exact J_sub [2, 3, 1, 0] (tX12_comes_196  l1 v1 v3 M2) rfl
  · refine K_aload_n (q := 20) 2 dX12_comes_19 rfl rfl rfl ?_
    refine K_getR (q := 23) (ci := 7) (a2 := 201) 0 dX12_comes_20 fRX12_9 rfl rfl (by decide) rfl rfl ?_
    refine K_sipush (q := 26) (v := nI 538) dX12_comes_23 rfl rfl ?_
    refine K_iload_n (q := 27) 0 dX12_comes_26 rfl rfl rfl ?_
    refine K_iadd (q := 28) dX12_comes_27 rfl ?_
    refine K_aload_n (q := 29) 2 dX12_comes_28 rfl rfl rfl ?_
    refine K_getR (q := 32) (ci := 7) (a2 := 204) 4 dX12_comes_29 fRX12_19 rfl rfl (by decide) rfl rfl ?_
    refine K_iconst (q := 33) (v := nI 0) dX12_comes_32 rfl rfl ?_
    refine K_iald (q := 34) dX12_comes_33 rfl (fun v4 => ?_)
    refine K_bipush (q := 36) (v := nI 6) dX12_comes_34 rfl rfl ?_
    refine K_icmp_ne (q := 39) (tgt := 43) dX12_comes_36 rfl ?_ rfl ?_
    · refine K_aload_n (q := 44) 2 dX12_comes_43 rfl rfl rfl ?_
      refine K_getR (q := 47) (ci := 7) (a2 := 204) 4 dX12_comes_44 fRX12_19 rfl rfl (by decide) rfl rfl ?_
      refine K_iconst (q := 48) (v := nI 0) dX12_comes_47 rfl rfl ?_
      refine K_iald (q := 49) dX12_comes_48 rfl (fun v5 => ?_)
      exact J_sub [2, 3, 1, 0] (tX12_comes_49  l1 v1 v3 ((nI 538) + v3) v5 M2) rfl
    · refine K_iconst (q := 40) (v := -1) dX12_comes_39 rfl rfl ?_
      refine J_goto (tgt := 49) dX12_comes_40 rfl ?_
      exact J_sub [2, 3, 1, 0] (tX12_comes_49  l1 v1 v3 ((nI 538) + v3) (-1 : Int32) M2) rfl
theorem dX12_isAsked_0 : decode cX12_isAsked 0 = .ok (.bipush 6, 2) := by decide +kernel
theorem dX12_isAsked_2 : decode cX12_isAsked 2 = .ok (.iload_n 1, 1) := by decide +kernel
theorem dX12_isAsked_3 : decode cX12_isAsked 3 = .ok (.imul, 1) := by decide +kernel
theorem dX12_isAsked_4 : decode cX12_isAsked 4 = .ok (.aload_n 0, 1) := by decide +kernel
theorem dX12_isAsked_5 : decode cX12_isAsked 5 = .ok (.getfield 19, 3) := by decide +kernel
theorem dX12_isAsked_8 : decode cX12_isAsked 8 = .ok (.iconst 0, 1) := by decide +kernel
theorem dX12_isAsked_9 : decode cX12_isAsked 9 = .ok (.iaload, 1) := by decide +kernel
theorem dX12_isAsked_10 : decode cX12_isAsked 10 = .ok (.iadd, 1) := by decide +kernel
theorem dX12_isAsked_11 : decode cX12_isAsked 11 = .ok (.istore_n 2, 1) := by decide +kernel
theorem dX12_isAsked_12 : decode cX12_isAsked 12 = .ok (.aload_n 0, 1) := by decide +kernel
theorem dX12_isAsked_13 : decode cX12_isAsked 13 = .ok (.getfield 9, 3) := by decide +kernel
theorem dX12_isAsked_16 : decode cX12_isAsked 16 = .ok (.sipush 316, 3) := by decide +kernel
theorem dX12_isAsked_19 : decode cX12_isAsked 19 = .ok (.iload_n 2, 1) := by decide +kernel
theorem dX12_isAsked_20 : decode cX12_isAsked 20 = .ok (.iadd, 1) := by decide +kernel
theorem dX12_isAsked_21 : decode cX12_isAsked 21 = .ok (.iaload, 1) := by decide +kernel
theorem dX12_isAsked_22 : decode cX12_isAsked 22 = .ok (.aload_n 0, 1) := by decide +kernel
theorem dX12_isAsked_23 : decode cX12_isAsked 23 = .ok (.getfield 19, 3) := by decide +kernel
theorem dX12_isAsked_26 : decode cX12_isAsked 26 = .ok (.bipush 7, 2) := by decide +kernel
theorem dX12_isAsked_28 : decode cX12_isAsked 28 = .ok (.iaload, 1) := by decide +kernel
theorem dX12_isAsked_29 : decode cX12_isAsked 29 = .ok (.if_icmp .lt 4, 3) := by decide +kernel
theorem dX12_isAsked_32 : decode cX12_isAsked 32 = .ok (.return_, 1) := by decide +kernel
theorem dX12_isAsked_33 : decode cX12_isAsked 33 = .ok (.aload_n 0, 1) := by decide +kernel
theorem dX12_isAsked_34 : decode cX12_isAsked 34 = .ok (.getfield 9, 3) := by decide +kernel
theorem dX12_isAsked_37 : decode cX12_isAsked 37 = .ok (.sipush 316, 3) := by decide +kernel
theorem dX12_isAsked_40 : decode cX12_isAsked 40 = .ok (.iload_n 2, 1) := by decide +kernel
theorem dX12_isAsked_41 : decode cX12_isAsked 41 = .ok (.iadd, 1) := by decide +kernel
theorem dX12_isAsked_42 : decode cX12_isAsked 42 = .ok (.aload_n 0, 1) := by decide +kernel
theorem dX12_isAsked_43 : decode cX12_isAsked 43 = .ok (.getfield 19, 3) := by decide +kernel
theorem dX12_isAsked_46 : decode cX12_isAsked 46 = .ok (.bipush 7, 2) := by decide +kernel
theorem dX12_isAsked_48 : decode cX12_isAsked 48 = .ok (.iaload, 1) := by decide +kernel
theorem dX12_isAsked_49 : decode cX12_isAsked 49 = .ok (.iastore, 1) := by decide +kernel
theorem dX12_isAsked_50 : decode cX12_isAsked 50 = .ok (.aload_n 0, 1) := by decide +kernel
theorem dX12_isAsked_51 : decode cX12_isAsked 51 = .ok (.getfield 9, 3) := by decide +kernel
theorem dX12_isAsked_54 : decode cX12_isAsked 54 = .ok (.sipush 358, 3) := by decide +kernel
theorem dX12_isAsked_57 : decode cX12_isAsked 57 = .ok (.iload_n 2, 1) := by decide +kernel
theorem dX12_isAsked_58 : decode cX12_isAsked 58 = .ok (.iadd, 1) := by decide +kernel
theorem dX12_isAsked_59 : decode cX12_isAsked 59 = .ok (.iconst 1, 1) := by decide +kernel
theorem dX12_isAsked_60 : decode cX12_isAsked 60 = .ok (.iastore, 1) := by decide +kernel
theorem dX12_isAsked_61 : decode cX12_isAsked 61 = .ok (.aload_n 0, 1) := by decide +kernel
theorem dX12_isAsked_62 : decode cX12_isAsked 62 = .ok (.getfield 9, 3) := by decide +kernel
theorem dX12_isAsked_65 : decode cX12_isAsked 65 = .ok (.sipush 400, 3) := by decide +kernel
theorem dX12_isAsked_68 : decode cX12_isAsked 68 = .ok (.iload_n 2, 1) := by decide +kernel
theorem dX12_isAsked_69 : decode cX12_isAsked 69 = .ok (.iadd, 1) := by decide +kernel
theorem dX12_isAsked_70 : decode cX12_isAsked 70 = .ok (.aload_n 0, 1) := by decide +kernel
theorem dX12_isAsked_71 : decode cX12_isAsked 71 = .ok (.getfield 19, 3) := by decide +kernel
theorem dX12_isAsked_74 : decode cX12_isAsked 74 = .ok (.iconst 3, 1) := by decide +kernel
theorem dX12_isAsked_75 : decode cX12_isAsked 75 = .ok (.iaload, 1) := by decide +kernel
theorem dX12_isAsked_76 : decode cX12_isAsked 76 = .ok (.iastore, 1) := by decide +kernel
theorem dX12_isAsked_77 : decode cX12_isAsked 77 = .ok (.aload_n 0, 1) := by decide +kernel
theorem dX12_isAsked_78 : decode cX12_isAsked 78 = .ok (.getfield 9, 3) := by decide +kernel
theorem dX12_isAsked_81 : decode cX12_isAsked 81 = .ok (.sipush 442, 3) := by decide +kernel
theorem dX12_isAsked_84 : decode cX12_isAsked 84 = .ok (.iload_n 2, 1) := by decide +kernel
theorem dX12_isAsked_85 : decode cX12_isAsked 85 = .ok (.iadd, 1) := by decide +kernel
theorem dX12_isAsked_86 : decode cX12_isAsked 86 = .ok (.aload_n 0, 1) := by decide +kernel
theorem dX12_isAsked_87 : decode cX12_isAsked 87 = .ok (.getfield 19, 3) := by decide +kernel
theorem dX12_isAsked_90 : decode cX12_isAsked 90 = .ok (.bipush 8, 2) := by decide +kernel
theorem dX12_isAsked_92 : decode cX12_isAsked 92 = .ok (.iaload, 1) := by decide +kernel
theorem dX12_isAsked_93 : decode cX12_isAsked 93 = .ok (.iastore, 1) := by decide +kernel
theorem dX12_isAsked_94 : decode cX12_isAsked 94 = .ok (.aload_n 0, 1) := by decide +kernel
theorem dX12_isAsked_95 : decode cX12_isAsked 95 = .ok (.getfield 9, 3) := by decide +kernel
theorem dX12_isAsked_98 : decode cX12_isAsked 98 = .ok (.sipush 484, 3) := by decide +kernel
theorem dX12_isAsked_101 : decode cX12_isAsked 101 = .ok (.iload_n 2, 1) := by decide +kernel
theorem dX12_isAsked_102 : decode cX12_isAsked 102 = .ok (.iadd, 1) := by decide +kernel
theorem dX12_isAsked_103 : decode cX12_isAsked 103 = .ok (.iconst 0, 1) := by decide +kernel
theorem dX12_isAsked_104 : decode cX12_isAsked 104 = .ok (.iastore, 1) := by decide +kernel
theorem dX12_isAsked_105 : decode cX12_isAsked 105 = .ok (.aload_n 0, 1) := by decide +kernel
theorem dX12_isAsked_106 : decode cX12_isAsked 106 = .ok (.iload_n 1, 1) := by decide +kernel
theorem dX12_isAsked_107 : decode cX12_isAsked 107 = .ok (.aload_n 0, 1) := by decide +kernel
theorem dX12_isAsked_108 : decode cX12_isAsked 108 = .ok (.getfield 19, 3) := by decide +kernel
theorem dX12_isAsked_111 : decode cX12_isAsked 111 = .ok (.iconst 3, 1) := by decide +kernel
theorem dX12_isAsked_112 : decode cX12_isAsked 112 = .ok (.iaload, 1) := by decide +kernel
theorem dX12_isAsked_113 : decode cX12_isAsked 113 = .ok (.invokevirtual 128, 3) := by decide +kernel
theorem dX12_isAsked_116 : decode cX12_isAsked 116 = .ok (.return_, 1) := by decide +kernel
def xX12_isAsked  (l1 : Int32) (M : j_M) : Option (j_M) := gd (nI 0) 9 (oli (M 204 (ix (nI 0))) fun v1 => gd ((nI 316) + (((nI 6) * l1) + v1)) 7460 (oli (M 201 (ix ((nI 316) + (((nI 6) * l1) + v1)))) fun v2 => gd (nI 7) 9 (oli (M 204 (ix (nI 7))) fun v3 => (if v2 < v3 then gd (nI 7) 9 (oli (M 204 (ix (nI 7))) fun v4 => gd ((nI 316) + (((nI 6) * l1) + v1)) 7460 (oml (mw M 201 (ix ((nI 316) + (((nI 6) * l1) + v1))) v4) fun M5 => gd ((nI 358) + (((nI 6) * l1) + v1)) 7460 (oml (mw M5 201 (ix ((nI 358) + (((nI 6) * l1) + v1))) (nI 1)) fun M6 => gd (nI 3) 9 (oli (M6 204 (ix (nI 3))) fun v7 => gd ((nI 400) + (((nI 6) * l1) + v1)) 7460 (oml (mw M6 201 (ix ((nI 400) + (((nI 6) * l1) + v1))) v7) fun M8 => gd (nI 8) 9 (oli (M8 204 (ix (nI 8))) fun v9 => gd ((nI 442) + (((nI 6) * l1) + v1)) 7460 (oml (mw M8 201 (ix ((nI 442) + (((nI 6) * l1) + v1))) v9) fun M10 => gd ((nI 484) + (((nI 6) * l1) + v1)) 7460 (oml (mw M10 201 (ix ((nI 484) + (((nI 6) * l1) + v1))) (nI 0)) fun M11 => gd (nI 3) 9 (oli (M11 204 (ix (nI 3))) fun v12 => obv (xX12_settles l1 v12 M11) fun M13 => some M13))))))))) else some M))))
set_option maxRecDepth 20000 in
set_option maxHeartbeats 2000000 in
theorem tX12_isAsked  (l1 : Int32) (M : j_M) : J (ρ := j_M) yX12_isAsked cX12_isAsked 3 none 6 144 j_ev 0 [(0, .inr (17, 0, 200)), (1, .inl (l1))] [] M (xX12_isAsked  l1 M) := by
  unfold xX12_isAsked
  refine K_bipush (q := 2) (v := nI 6) dX12_isAsked_0 rfl rfl ?_
  refine K_iload_n (q := 3) 1 dX12_isAsked_2 rfl rfl rfl ?_
  refine K_imul (q := 4) dX12_isAsked_3 rfl ?_
  refine K_aload_n (q := 5) 0 dX12_isAsked_4 rfl rfl rfl ?_
  refine K_getR (q := 8) (ci := 7) (a2 := 204) 4 dX12_isAsked_5 fRX12_19 rfl rfl (by decide) rfl rfl ?_
  refine K_iconst (q := 9) (v := nI 0) dX12_isAsked_8 rfl rfl ?_
  refine K_iald (q := 10) dX12_isAsked_9 rfl (fun v1 => ?_)
  refine K_iadd (q := 11) dX12_isAsked_10 rfl ?_
  refine K_istore_n (q := 12) (ll' := [(2, .inl (((nI 6) * l1) + v1)), (0, .inr (17, 0, 200)), (1, .inl (l1))]) dX12_isAsked_11 rfl (by decide) rfl rfl ?_
  refine K_aload_n (q := 13) 1 dX12_isAsked_12 rfl rfl rfl ?_
  refine K_getR (q := 16) (ci := 7) (a2 := 201) 0 dX12_isAsked_13 fRX12_9 rfl rfl (by decide) rfl rfl ?_
  refine K_sipush (q := 19) (v := nI 316) dX12_isAsked_16 rfl rfl ?_
  refine K_iload_n (q := 20) 0 dX12_isAsked_19 rfl rfl rfl ?_
  refine K_iadd (q := 21) dX12_isAsked_20 rfl ?_
  refine K_iald (q := 22) dX12_isAsked_21 rfl (fun v2 => ?_)
  refine K_aload_n (q := 23) 1 dX12_isAsked_22 rfl rfl rfl ?_
  refine K_getR (q := 26) (ci := 7) (a2 := 204) 4 dX12_isAsked_23 fRX12_19 rfl rfl (by decide) rfl rfl ?_
  refine K_bipush (q := 28) (v := nI 7) dX12_isAsked_26 rfl rfl ?_
  refine K_iald (q := 29) dX12_isAsked_28 rfl (fun v3 => ?_)
  refine K_icmp_lt (q := 32) (tgt := 33) dX12_isAsked_29 rfl ?_ rfl ?_
  · refine K_aload_n (q := 34) 1 dX12_isAsked_33 rfl rfl rfl ?_
    refine K_getR (q := 37) (ci := 7) (a2 := 201) 0 dX12_isAsked_34 fRX12_9 rfl rfl (by decide) rfl rfl ?_
    refine K_sipush (q := 40) (v := nI 316) dX12_isAsked_37 rfl rfl ?_
    refine K_iload_n (q := 41) 0 dX12_isAsked_40 rfl rfl rfl ?_
    refine K_iadd (q := 42) dX12_isAsked_41 rfl ?_
    refine K_aload_n (q := 43) 1 dX12_isAsked_42 rfl rfl rfl ?_
    refine K_getR (q := 46) (ci := 7) (a2 := 204) 4 dX12_isAsked_43 fRX12_19 rfl rfl (by decide) rfl rfl ?_
    refine K_bipush (q := 48) (v := nI 7) dX12_isAsked_46 rfl rfl ?_
    refine K_iald (q := 49) dX12_isAsked_48 rfl (fun v4 => ?_)
    refine K_iast (q := 50) dX12_isAsked_49 rfl (fun M5 => ?_)
    refine K_aload_n (q := 51) 1 dX12_isAsked_50 rfl rfl rfl ?_
    refine K_getR (q := 54) (ci := 7) (a2 := 201) 0 dX12_isAsked_51 fRX12_9 rfl rfl (by decide) rfl rfl ?_
    refine K_sipush (q := 57) (v := nI 358) dX12_isAsked_54 rfl rfl ?_
    refine K_iload_n (q := 58) 0 dX12_isAsked_57 rfl rfl rfl ?_
    refine K_iadd (q := 59) dX12_isAsked_58 rfl ?_
    refine K_iconst (q := 60) (v := nI 1) dX12_isAsked_59 rfl rfl ?_
    refine K_iast (q := 61) dX12_isAsked_60 rfl (fun M6 => ?_)
    refine K_aload_n (q := 62) 1 dX12_isAsked_61 rfl rfl rfl ?_
    refine K_getR (q := 65) (ci := 7) (a2 := 201) 0 dX12_isAsked_62 fRX12_9 rfl rfl (by decide) rfl rfl ?_
    refine K_sipush (q := 68) (v := nI 400) dX12_isAsked_65 rfl rfl ?_
    refine K_iload_n (q := 69) 0 dX12_isAsked_68 rfl rfl rfl ?_
    refine K_iadd (q := 70) dX12_isAsked_69 rfl ?_
    refine K_aload_n (q := 71) 1 dX12_isAsked_70 rfl rfl rfl ?_
    refine K_getR (q := 74) (ci := 7) (a2 := 204) 4 dX12_isAsked_71 fRX12_19 rfl rfl (by decide) rfl rfl ?_
    refine K_iconst (q := 75) (v := nI 3) dX12_isAsked_74 rfl rfl ?_
    refine K_iald (q := 76) dX12_isAsked_75 rfl (fun v7 => ?_)
    refine K_iast (q := 77) dX12_isAsked_76 rfl (fun M8 => ?_)
    refine K_aload_n (q := 78) 1 dX12_isAsked_77 rfl rfl rfl ?_
    refine K_getR (q := 81) (ci := 7) (a2 := 201) 0 dX12_isAsked_78 fRX12_9 rfl rfl (by decide) rfl rfl ?_
    refine K_sipush (q := 84) (v := nI 442) dX12_isAsked_81 rfl rfl ?_
    refine K_iload_n (q := 85) 0 dX12_isAsked_84 rfl rfl rfl ?_
    refine K_iadd (q := 86) dX12_isAsked_85 rfl ?_
    refine K_aload_n (q := 87) 1 dX12_isAsked_86 rfl rfl rfl ?_
    refine K_getR (q := 90) (ci := 7) (a2 := 204) 4 dX12_isAsked_87 fRX12_19 rfl rfl (by decide) rfl rfl ?_
    refine K_bipush (q := 92) (v := nI 8) dX12_isAsked_90 rfl rfl ?_
    refine K_iald (q := 93) dX12_isAsked_92 rfl (fun v9 => ?_)
    refine K_iast (q := 94) dX12_isAsked_93 rfl (fun M10 => ?_)
    refine K_aload_n (q := 95) 1 dX12_isAsked_94 rfl rfl rfl ?_
    refine K_getR (q := 98) (ci := 7) (a2 := 201) 0 dX12_isAsked_95 fRX12_9 rfl rfl (by decide) rfl rfl ?_
    refine K_sipush (q := 101) (v := nI 484) dX12_isAsked_98 rfl rfl ?_
    refine K_iload_n (q := 102) 0 dX12_isAsked_101 rfl rfl rfl ?_
    refine K_iadd (q := 103) dX12_isAsked_102 rfl ?_
    refine K_iconst (q := 104) (v := nI 0) dX12_isAsked_103 rfl rfl ?_
    refine K_iast (q := 105) dX12_isAsked_104 rfl (fun M11 => ?_)
    refine K_aload_n (q := 106) 1 dX12_isAsked_105 rfl rfl rfl ?_
    refine K_iload_n (q := 107) 2 dX12_isAsked_106 rfl rfl rfl ?_
    refine K_aload_n (q := 108) 1 dX12_isAsked_107 rfl rfl rfl ?_
    refine K_getR (q := 111) (ci := 7) (a2 := 204) 4 dX12_isAsked_108 fRX12_19 rfl rfl (by decide) rfl rfl ?_
    refine K_iconst (q := 112) (v := nI 3) dX12_isAsked_111 rfl rfl ?_
    refine K_iald (q := 113) dX12_isAsked_112 rfl (fun v12 => ?_)
    refine K_cvv (q := 116) [.inl (l1), .inl (v12)] dX12_isAsked_113 cb_X12_settles cvRX12_128 rc_7 (show (17 : Nat) ≠ 0 by decide) rfl (Nat.le_of_ble_eq_true rfl) ⟨by decide, by decide⟩ (Nat.le_of_ble_eq_true rfl) rfl (tX12_settles l1 v12 M11) rfl (fun M13 => ?_)
    exact J_vret dX12_isAsked_116
  · exact J_vret dX12_isAsked_32
theorem dX12_isRecalled_0 : decode cX12_isRecalled 0 = .ok (.bipush 6, 2) := by decide +kernel
theorem dX12_isRecalled_2 : decode cX12_isRecalled 2 = .ok (.iload_n 1, 1) := by decide +kernel
theorem dX12_isRecalled_3 : decode cX12_isRecalled 3 = .ok (.imul, 1) := by decide +kernel
theorem dX12_isRecalled_4 : decode cX12_isRecalled 4 = .ok (.aload_n 0, 1) := by decide +kernel
theorem dX12_isRecalled_5 : decode cX12_isRecalled 5 = .ok (.getfield 19, 3) := by decide +kernel
theorem dX12_isRecalled_8 : decode cX12_isRecalled 8 = .ok (.iconst 0, 1) := by decide +kernel
theorem dX12_isRecalled_9 : decode cX12_isRecalled 9 = .ok (.iaload, 1) := by decide +kernel
theorem dX12_isRecalled_10 : decode cX12_isRecalled 10 = .ok (.iadd, 1) := by decide +kernel
theorem dX12_isRecalled_11 : decode cX12_isRecalled 11 = .ok (.istore_n 2, 1) := by decide +kernel
theorem dX12_isRecalled_12 : decode cX12_isRecalled 12 = .ok (.aload_n 0, 1) := by decide +kernel
theorem dX12_isRecalled_13 : decode cX12_isRecalled 13 = .ok (.getfield 9, 3) := by decide +kernel
theorem dX12_isRecalled_16 : decode cX12_isRecalled 16 = .ok (.sipush 316, 3) := by decide +kernel
theorem dX12_isRecalled_19 : decode cX12_isRecalled 19 = .ok (.iload_n 2, 1) := by decide +kernel
theorem dX12_isRecalled_20 : decode cX12_isRecalled 20 = .ok (.iadd, 1) := by decide +kernel
theorem dX12_isRecalled_21 : decode cX12_isRecalled 21 = .ok (.iaload, 1) := by decide +kernel
theorem dX12_isRecalled_22 : decode cX12_isRecalled 22 = .ok (.aload_n 0, 1) := by decide +kernel
theorem dX12_isRecalled_23 : decode cX12_isRecalled 23 = .ok (.getfield 19, 3) := by decide +kernel
theorem dX12_isRecalled_26 : decode cX12_isRecalled 26 = .ok (.bipush 7, 2) := by decide +kernel
theorem dX12_isRecalled_28 : decode cX12_isRecalled 28 = .ok (.iaload, 1) := by decide +kernel
theorem dX12_isRecalled_29 : decode cX12_isRecalled 29 = .ok (.if_icmp .le 4, 3) := by decide +kernel
theorem dX12_isRecalled_32 : decode cX12_isRecalled 32 = .ok (.return_, 1) := by decide +kernel
theorem dX12_isRecalled_33 : decode cX12_isRecalled 33 = .ok (.aload_n 0, 1) := by decide +kernel
theorem dX12_isRecalled_34 : decode cX12_isRecalled 34 = .ok (.getfield 9, 3) := by decide +kernel
theorem dX12_isRecalled_37 : decode cX12_isRecalled 37 = .ok (.sipush 316, 3) := by decide +kernel
theorem dX12_isRecalled_40 : decode cX12_isRecalled 40 = .ok (.iload_n 2, 1) := by decide +kernel
theorem dX12_isRecalled_41 : decode cX12_isRecalled 41 = .ok (.iadd, 1) := by decide +kernel
theorem dX12_isRecalled_42 : decode cX12_isRecalled 42 = .ok (.aload_n 0, 1) := by decide +kernel
theorem dX12_isRecalled_43 : decode cX12_isRecalled 43 = .ok (.getfield 19, 3) := by decide +kernel
theorem dX12_isRecalled_46 : decode cX12_isRecalled 46 = .ok (.bipush 7, 2) := by decide +kernel
theorem dX12_isRecalled_48 : decode cX12_isRecalled 48 = .ok (.iaload, 1) := by decide +kernel
theorem dX12_isRecalled_49 : decode cX12_isRecalled 49 = .ok (.iastore, 1) := by decide +kernel
theorem dX12_isRecalled_50 : decode cX12_isRecalled 50 = .ok (.aload_n 0, 1) := by decide +kernel
theorem dX12_isRecalled_51 : decode cX12_isRecalled 51 = .ok (.getfield 9, 3) := by decide +kernel
theorem dX12_isRecalled_54 : decode cX12_isRecalled 54 = .ok (.sipush 358, 3) := by decide +kernel
theorem dX12_isRecalled_57 : decode cX12_isRecalled 57 = .ok (.iload_n 2, 1) := by decide +kernel
theorem dX12_isRecalled_58 : decode cX12_isRecalled 58 = .ok (.iadd, 1) := by decide +kernel
theorem dX12_isRecalled_59 : decode cX12_isRecalled 59 = .ok (.iconst 0, 1) := by decide +kernel
theorem dX12_isRecalled_60 : decode cX12_isRecalled 60 = .ok (.iastore, 1) := by decide +kernel
theorem dX12_isRecalled_61 : decode cX12_isRecalled 61 = .ok (.aload_n 0, 1) := by decide +kernel
theorem dX12_isRecalled_62 : decode cX12_isRecalled 62 = .ok (.getfield 9, 3) := by decide +kernel
theorem dX12_isRecalled_65 : decode cX12_isRecalled 65 = .ok (.sipush 484, 3) := by decide +kernel
theorem dX12_isRecalled_68 : decode cX12_isRecalled 68 = .ok (.iload_n 2, 1) := by decide +kernel
theorem dX12_isRecalled_69 : decode cX12_isRecalled 69 = .ok (.iadd, 1) := by decide +kernel
theorem dX12_isRecalled_70 : decode cX12_isRecalled 70 = .ok (.iconst 0, 1) := by decide +kernel
theorem dX12_isRecalled_71 : decode cX12_isRecalled 71 = .ok (.iastore, 1) := by decide +kernel
theorem dX12_isRecalled_72 : decode cX12_isRecalled 72 = .ok (.aload_n 0, 1) := by decide +kernel
theorem dX12_isRecalled_73 : decode cX12_isRecalled 73 = .ok (.iload_n 1, 1) := by decide +kernel
theorem dX12_isRecalled_74 : decode cX12_isRecalled 74 = .ok (.aload_n 0, 1) := by decide +kernel
theorem dX12_isRecalled_75 : decode cX12_isRecalled 75 = .ok (.getfield 19, 3) := by decide +kernel
theorem dX12_isRecalled_78 : decode cX12_isRecalled 78 = .ok (.iconst 3, 1) := by decide +kernel
theorem dX12_isRecalled_79 : decode cX12_isRecalled 79 = .ok (.iaload, 1) := by decide +kernel
theorem dX12_isRecalled_80 : decode cX12_isRecalled 80 = .ok (.invokevirtual 128, 3) := by decide +kernel
theorem dX12_isRecalled_83 : decode cX12_isRecalled 83 = .ok (.return_, 1) := by decide +kernel
def xX12_isRecalled  (l1 : Int32) (M : j_M) : Option (j_M) := gd (nI 0) 9 (oli (M 204 (ix (nI 0))) fun v1 => gd ((nI 316) + (((nI 6) * l1) + v1)) 7460 (oli (M 201 (ix ((nI 316) + (((nI 6) * l1) + v1)))) fun v2 => gd (nI 7) 9 (oli (M 204 (ix (nI 7))) fun v3 => (if v2 ≤ v3 then gd (nI 7) 9 (oli (M 204 (ix (nI 7))) fun v4 => gd ((nI 316) + (((nI 6) * l1) + v1)) 7460 (oml (mw M 201 (ix ((nI 316) + (((nI 6) * l1) + v1))) v4) fun M5 => gd ((nI 358) + (((nI 6) * l1) + v1)) 7460 (oml (mw M5 201 (ix ((nI 358) + (((nI 6) * l1) + v1))) (nI 0)) fun M6 => gd ((nI 484) + (((nI 6) * l1) + v1)) 7460 (oml (mw M6 201 (ix ((nI 484) + (((nI 6) * l1) + v1))) (nI 0)) fun M7 => gd (nI 3) 9 (oli (M7 204 (ix (nI 3))) fun v8 => obv (xX12_settles l1 v8 M7) fun M9 => some M9))))) else some M))))
set_option maxRecDepth 20000 in
set_option maxHeartbeats 2000000 in
theorem tX12_isRecalled  (l1 : Int32) (M : j_M) : J (ρ := j_M) yX12_isRecalled cX12_isRecalled 3 none 6 144 j_ev 0 [(0, .inr (17, 0, 200)), (1, .inl (l1))] [] M (xX12_isRecalled  l1 M) := by
  unfold xX12_isRecalled
  refine K_bipush (q := 2) (v := nI 6) dX12_isRecalled_0 rfl rfl ?_
  refine K_iload_n (q := 3) 1 dX12_isRecalled_2 rfl rfl rfl ?_
  refine K_imul (q := 4) dX12_isRecalled_3 rfl ?_
  refine K_aload_n (q := 5) 0 dX12_isRecalled_4 rfl rfl rfl ?_
  refine K_getR (q := 8) (ci := 7) (a2 := 204) 4 dX12_isRecalled_5 fRX12_19 rfl rfl (by decide) rfl rfl ?_
  refine K_iconst (q := 9) (v := nI 0) dX12_isRecalled_8 rfl rfl ?_
  refine K_iald (q := 10) dX12_isRecalled_9 rfl (fun v1 => ?_)
  refine K_iadd (q := 11) dX12_isRecalled_10 rfl ?_
  refine K_istore_n (q := 12) (ll' := [(2, .inl (((nI 6) * l1) + v1)), (0, .inr (17, 0, 200)), (1, .inl (l1))]) dX12_isRecalled_11 rfl (by decide) rfl rfl ?_
  refine K_aload_n (q := 13) 1 dX12_isRecalled_12 rfl rfl rfl ?_
  refine K_getR (q := 16) (ci := 7) (a2 := 201) 0 dX12_isRecalled_13 fRX12_9 rfl rfl (by decide) rfl rfl ?_
  refine K_sipush (q := 19) (v := nI 316) dX12_isRecalled_16 rfl rfl ?_
  refine K_iload_n (q := 20) 0 dX12_isRecalled_19 rfl rfl rfl ?_
  refine K_iadd (q := 21) dX12_isRecalled_20 rfl ?_
  refine K_iald (q := 22) dX12_isRecalled_21 rfl (fun v2 => ?_)
  refine K_aload_n (q := 23) 1 dX12_isRecalled_22 rfl rfl rfl ?_
  refine K_getR (q := 26) (ci := 7) (a2 := 204) 4 dX12_isRecalled_23 fRX12_19 rfl rfl (by decide) rfl rfl ?_
  refine K_bipush (q := 28) (v := nI 7) dX12_isRecalled_26 rfl rfl ?_
  refine K_iald (q := 29) dX12_isRecalled_28 rfl (fun v3 => ?_)
  refine K_icmp_le (q := 32) (tgt := 33) dX12_isRecalled_29 rfl ?_ rfl ?_
  · refine K_aload_n (q := 34) 1 dX12_isRecalled_33 rfl rfl rfl ?_
    refine K_getR (q := 37) (ci := 7) (a2 := 201) 0 dX12_isRecalled_34 fRX12_9 rfl rfl (by decide) rfl rfl ?_
    refine K_sipush (q := 40) (v := nI 316) dX12_isRecalled_37 rfl rfl ?_
    refine K_iload_n (q := 41) 0 dX12_isRecalled_40 rfl rfl rfl ?_
    refine K_iadd (q := 42) dX12_isRecalled_41 rfl ?_
    refine K_aload_n (q := 43) 1 dX12_isRecalled_42 rfl rfl rfl ?_
    refine K_getR (q := 46) (ci := 7) (a2 := 204) 4 dX12_isRecalled_43 fRX12_19 rfl rfl (by decide) rfl rfl ?_
    refine K_bipush (q := 48) (v := nI 7) dX12_isRecalled_46 rfl rfl ?_
    refine K_iald (q := 49) dX12_isRecalled_48 rfl (fun v4 => ?_)
    refine K_iast (q := 50) dX12_isRecalled_49 rfl (fun M5 => ?_)
    refine K_aload_n (q := 51) 1 dX12_isRecalled_50 rfl rfl rfl ?_
    refine K_getR (q := 54) (ci := 7) (a2 := 201) 0 dX12_isRecalled_51 fRX12_9 rfl rfl (by decide) rfl rfl ?_
    refine K_sipush (q := 57) (v := nI 358) dX12_isRecalled_54 rfl rfl ?_
    refine K_iload_n (q := 58) 0 dX12_isRecalled_57 rfl rfl rfl ?_
    refine K_iadd (q := 59) dX12_isRecalled_58 rfl ?_
    refine K_iconst (q := 60) (v := nI 0) dX12_isRecalled_59 rfl rfl ?_
    refine K_iast (q := 61) dX12_isRecalled_60 rfl (fun M6 => ?_)
    refine K_aload_n (q := 62) 1 dX12_isRecalled_61 rfl rfl rfl ?_
    refine K_getR (q := 65) (ci := 7) (a2 := 201) 0 dX12_isRecalled_62 fRX12_9 rfl rfl (by decide) rfl rfl ?_
    refine K_sipush (q := 68) (v := nI 484) dX12_isRecalled_65 rfl rfl ?_
    refine K_iload_n (q := 69) 0 dX12_isRecalled_68 rfl rfl rfl ?_
    refine K_iadd (q := 70) dX12_isRecalled_69 rfl ?_
    refine K_iconst (q := 71) (v := nI 0) dX12_isRecalled_70 rfl rfl ?_
    refine K_iast (q := 72) dX12_isRecalled_71 rfl (fun M7 => ?_)
    refine K_aload_n (q := 73) 1 dX12_isRecalled_72 rfl rfl rfl ?_
    refine K_iload_n (q := 74) 2 dX12_isRecalled_73 rfl rfl rfl ?_
    refine K_aload_n (q := 75) 1 dX12_isRecalled_74 rfl rfl rfl ?_
    refine K_getR (q := 78) (ci := 7) (a2 := 204) 4 dX12_isRecalled_75 fRX12_19 rfl rfl (by decide) rfl rfl ?_
    refine K_iconst (q := 79) (v := nI 3) dX12_isRecalled_78 rfl rfl ?_
    refine K_iald (q := 80) dX12_isRecalled_79 rfl (fun v8 => ?_)
    refine K_cvv (q := 83) [.inl (l1), .inl (v8)] dX12_isRecalled_80 cb_X12_settles cvRX12_128 rc_7 (show (17 : Nat) ≠ 0 by decide) rfl (Nat.le_of_ble_eq_true rfl) ⟨by decide, by decide⟩ (Nat.le_of_ble_eq_true rfl) rfl (tX12_settles l1 v8 M7) rfl (fun M9 => ?_)
    exact J_vret dX12_isRecalled_83
  · exact J_vret dX12_isRecalled_32
theorem dX12_delivers_0 : decode cX12_delivers 0 = .ok (.iconst 0, 1) := by decide +kernel
theorem dX12_delivers_1 : decode cX12_delivers 1 = .ok (.istore_n 2, 1) := by decide +kernel
theorem dX12_delivers_2 : decode cX12_delivers 2 = .ok (.iload_n 2, 1) := by decide +kernel
theorem dX12_delivers_3 : decode cX12_delivers 3 = .ok (.bipush 9, 2) := by decide +kernel
theorem dX12_delivers_5 : decode cX12_delivers 5 = .ok (.if_icmp .ge 21, 3) := by decide +kernel
theorem dX12_delivers_8 : decode cX12_delivers 8 = .ok (.aload_n 0, 1) := by decide +kernel
theorem dX12_delivers_9 : decode cX12_delivers 9 = .ok (.getfield 19, 3) := by decide +kernel
theorem dX12_delivers_12 : decode cX12_delivers 12 = .ok (.iload_n 2, 1) := by decide +kernel
theorem dX12_delivers_13 : decode cX12_delivers 13 = .ok (.aload_n 0, 1) := by decide +kernel
theorem dX12_delivers_14 : decode cX12_delivers 14 = .ok (.iload_n 1, 1) := by decide +kernel
theorem dX12_delivers_15 : decode cX12_delivers 15 = .ok (.iload_n 2, 1) := by decide +kernel
theorem dX12_delivers_16 : decode cX12_delivers 16 = .ok (.invokevirtual 79, 3) := by decide +kernel
theorem dX12_delivers_19 : decode cX12_delivers 19 = .ok (.iastore, 1) := by decide +kernel
theorem dX12_delivers_20 : decode cX12_delivers 20 = .ok (.iinc 2 1, 3) := by decide +kernel
theorem dX12_delivers_23 : decode cX12_delivers 23 = .ok (.goto (-21), 3) := by decide +kernel
theorem dX12_delivers_26 : decode cX12_delivers 26 = .ok (.aload_n 0, 1) := by decide +kernel
theorem dX12_delivers_27 : decode cX12_delivers 27 = .ok (.getfield 9, 3) := by decide +kernel
theorem dX12_delivers_30 : decode cX12_delivers 30 = .ok (.bipush 7, 2) := by decide +kernel
theorem dX12_delivers_32 : decode cX12_delivers 32 = .ok (.dup2, 1) := by decide +kernel
theorem dX12_delivers_33 : decode cX12_delivers 33 = .ok (.iaload, 1) := by decide +kernel
theorem dX12_delivers_34 : decode cX12_delivers 34 = .ok (.iconst 1, 1) := by decide +kernel
theorem dX12_delivers_35 : decode cX12_delivers 35 = .ok (.isub, 1) := by decide +kernel
theorem dX12_delivers_36 : decode cX12_delivers 36 = .ok (.iastore, 1) := by decide +kernel
theorem dX12_delivers_37 : decode cX12_delivers 37 = .ok (.bipush 9, 2) := by decide +kernel
theorem dX12_delivers_39 : decode cX12_delivers 39 = .ok (.iload_n 1, 1) := by decide +kernel
theorem dX12_delivers_40 : decode cX12_delivers 40 = .ok (.imul, 1) := by decide +kernel
theorem dX12_delivers_41 : decode cX12_delivers 41 = .ok (.istore_n 2, 1) := by decide +kernel
theorem dX12_delivers_42 : decode cX12_delivers 42 = .ok (.iload_n 2, 1) := by decide +kernel
theorem dX12_delivers_43 : decode cX12_delivers 43 = .ok (.bipush 9, 2) := by decide +kernel
theorem dX12_delivers_45 : decode cX12_delivers 45 = .ok (.aload_n 0, 1) := by decide +kernel
theorem dX12_delivers_46 : decode cX12_delivers 46 = .ok (.getfield 9, 3) := by decide +kernel
theorem dX12_delivers_49 : decode cX12_delivers 49 = .ok (.bipush 7, 2) := by decide +kernel
theorem dX12_delivers_51 : decode cX12_delivers 51 = .ok (.iaload, 1) := by decide +kernel
theorem dX12_delivers_52 : decode cX12_delivers 52 = .ok (.imul, 1) := by decide +kernel
theorem dX12_delivers_53 : decode cX12_delivers 53 = .ok (.if_icmp .ge 32, 3) := by decide +kernel
theorem dX12_delivers_56 : decode cX12_delivers 56 = .ok (.aload_n 0, 1) := by decide +kernel
theorem dX12_delivers_57 : decode cX12_delivers 57 = .ok (.getfield 9, 3) := by decide +kernel
theorem dX12_delivers_60 : decode cX12_delivers 60 = .ok (.sipush 586, 3) := by decide +kernel
theorem dX12_delivers_63 : decode cX12_delivers 63 = .ok (.iload_n 2, 1) := by decide +kernel
theorem dX12_delivers_64 : decode cX12_delivers 64 = .ok (.iadd, 1) := by decide +kernel
theorem dX12_delivers_65 : decode cX12_delivers 65 = .ok (.aload_n 0, 1) := by decide +kernel
theorem dX12_delivers_66 : decode cX12_delivers 66 = .ok (.getfield 9, 3) := by decide +kernel
theorem dX12_delivers_69 : decode cX12_delivers 69 = .ok (.sipush 586, 3) := by decide +kernel
theorem dX12_delivers_72 : decode cX12_delivers 72 = .ok (.iload_n 2, 1) := by decide +kernel
theorem dX12_delivers_73 : decode cX12_delivers 73 = .ok (.iadd, 1) := by decide +kernel
theorem dX12_delivers_74 : decode cX12_delivers 74 = .ok (.bipush 9, 2) := by decide +kernel
theorem dX12_delivers_76 : decode cX12_delivers 76 = .ok (.iadd, 1) := by decide +kernel
theorem dX12_delivers_77 : decode cX12_delivers 77 = .ok (.iaload, 1) := by decide +kernel
theorem dX12_delivers_78 : decode cX12_delivers 78 = .ok (.iastore, 1) := by decide +kernel
theorem dX12_delivers_79 : decode cX12_delivers 79 = .ok (.iinc 2 1, 3) := by decide +kernel
theorem dX12_delivers_82 : decode cX12_delivers 82 = .ok (.goto (-40), 3) := by decide +kernel
theorem dX12_delivers_85 : decode cX12_delivers 85 = .ok (.aload_n 0, 1) := by decide +kernel
theorem dX12_delivers_86 : decode cX12_delivers 86 = .ok (.getfield 9, 3) := by decide +kernel
theorem dX12_delivers_89 : decode cX12_delivers 89 = .ok (.bipush 13, 2) := by decide +kernel
theorem dX12_delivers_91 : decode cX12_delivers 91 = .ok (.dup2, 1) := by decide +kernel
theorem dX12_delivers_92 : decode cX12_delivers 92 = .ok (.iaload, 1) := by decide +kernel
theorem dX12_delivers_93 : decode cX12_delivers 93 = .ok (.iconst 1, 1) := by decide +kernel
theorem dX12_delivers_94 : decode cX12_delivers 94 = .ok (.iadd, 1) := by decide +kernel
theorem dX12_delivers_95 : decode cX12_delivers 95 = .ok (.iastore, 1) := by decide +kernel
theorem dX12_delivers_96 : decode cX12_delivers 96 = .ok (.aload_n 0, 1) := by decide +kernel
theorem dX12_delivers_97 : decode cX12_delivers 97 = .ok (.getfield 19, 3) := by decide +kernel
theorem dX12_delivers_100 : decode cX12_delivers 100 = .ok (.iconst 2, 1) := by decide +kernel
theorem dX12_delivers_101 : decode cX12_delivers 101 = .ok (.iaload, 1) := by decide +kernel
theorem dX12_delivers_102 : decode cX12_delivers 102 = .ok (.istore_n 2, 1) := by decide +kernel
theorem dX12_delivers_103 : decode cX12_delivers 103 = .ok (.iload_n 2, 1) := by decide +kernel
theorem dX12_delivers_104 : decode cX12_delivers 104 = .ok (.tableswitch 86 1 4 #[32, 46, 60, 73], 32) := by decide +kernel
theorem dX12_delivers_136 : decode cX12_delivers 136 = .ok (.aload_n 0, 1) := by decide +kernel
theorem dX12_delivers_137 : decode cX12_delivers 137 = .ok (.aload_n 0, 1) := by decide +kernel
theorem dX12_delivers_138 : decode cX12_delivers 138 = .ok (.getfield 19, 3) := by decide +kernel
theorem dX12_delivers_141 : decode cX12_delivers 141 = .ok (.iconst 1, 1) := by decide +kernel
theorem dX12_delivers_142 : decode cX12_delivers 142 = .ok (.iaload, 1) := by decide +kernel
theorem dX12_delivers_143 : decode cX12_delivers 143 = .ok (.iconst 0, 1) := by decide +kernel
theorem dX12_delivers_144 : decode cX12_delivers 144 = .ok (.invokevirtual 165, 3) := by decide +kernel
theorem dX12_delivers_147 : decode cX12_delivers 147 = .ok (.goto 53, 3) := by decide +kernel
theorem dX12_delivers_150 : decode cX12_delivers 150 = .ok (.aload_n 0, 1) := by decide +kernel
theorem dX12_delivers_151 : decode cX12_delivers 151 = .ok (.aload_n 0, 1) := by decide +kernel
theorem dX12_delivers_152 : decode cX12_delivers 152 = .ok (.getfield 19, 3) := by decide +kernel
theorem dX12_delivers_155 : decode cX12_delivers 155 = .ok (.iconst 1, 1) := by decide +kernel
theorem dX12_delivers_156 : decode cX12_delivers 156 = .ok (.iaload, 1) := by decide +kernel
theorem dX12_delivers_157 : decode cX12_delivers 157 = .ok (.iconst 1, 1) := by decide +kernel
theorem dX12_delivers_158 : decode cX12_delivers 158 = .ok (.invokevirtual 165, 3) := by decide +kernel
theorem dX12_delivers_161 : decode cX12_delivers 161 = .ok (.goto 39, 3) := by decide +kernel
theorem dX12_delivers_164 : decode cX12_delivers 164 = .ok (.aload_n 0, 1) := by decide +kernel
theorem dX12_delivers_165 : decode cX12_delivers 165 = .ok (.aload_n 0, 1) := by decide +kernel
theorem dX12_delivers_166 : decode cX12_delivers 166 = .ok (.getfield 19, 3) := by decide +kernel
theorem dX12_delivers_169 : decode cX12_delivers 169 = .ok (.iconst 1, 1) := by decide +kernel
theorem dX12_delivers_170 : decode cX12_delivers 170 = .ok (.iaload, 1) := by decide +kernel
theorem dX12_delivers_171 : decode cX12_delivers 171 = .ok (.invokevirtual 169, 3) := by decide +kernel
theorem dX12_delivers_174 : decode cX12_delivers 174 = .ok (.goto 26, 3) := by decide +kernel
theorem dX12_delivers_177 : decode cX12_delivers 177 = .ok (.aload_n 0, 1) := by decide +kernel
theorem dX12_delivers_178 : decode cX12_delivers 178 = .ok (.aload_n 0, 1) := by decide +kernel
theorem dX12_delivers_179 : decode cX12_delivers 179 = .ok (.getfield 19, 3) := by decide +kernel
theorem dX12_delivers_182 : decode cX12_delivers 182 = .ok (.iconst 1, 1) := by decide +kernel
theorem dX12_delivers_183 : decode cX12_delivers 183 = .ok (.iaload, 1) := by decide +kernel
theorem dX12_delivers_184 : decode cX12_delivers 184 = .ok (.invokevirtual 172, 3) := by decide +kernel
theorem dX12_delivers_187 : decode cX12_delivers 187 = .ok (.goto 13, 3) := by decide +kernel
theorem dX12_delivers_190 : decode cX12_delivers 190 = .ok (.aload_n 0, 1) := by decide +kernel
theorem dX12_delivers_191 : decode cX12_delivers 191 = .ok (.aload_n 0, 1) := by decide +kernel
theorem dX12_delivers_192 : decode cX12_delivers 192 = .ok (.getfield 19, 3) := by decide +kernel
theorem dX12_delivers_195 : decode cX12_delivers 195 = .ok (.iconst 1, 1) := by decide +kernel
theorem dX12_delivers_196 : decode cX12_delivers 196 = .ok (.iaload, 1) := by decide +kernel
theorem dX12_delivers_197 : decode cX12_delivers 197 = .ok (.invokevirtual 175, 3) := by decide +kernel
theorem dX12_delivers_200 : decode cX12_delivers 200 = .ok (.iload_n 2, 1) := by decide +kernel
theorem dX12_delivers_201 : decode cX12_delivers 201 = .ok (.ireturn, 1) := by decide +kernel
def xX12_delivers_42   : Nat → Int32 → j_M → Option (Int32 × j_M)
  | 0, _, _ => none
  | n + 1, l2, M => gd (nI 7) 7460 (oli (M 201 (ix (nI 7))) fun v1 => (if ((nI 9) * v1) ≤ l2 then gd (nI 13) 7460 (oli (M 201 (ix (nI 13))) fun v2 => gd (nI 13) 7460 (oml (mw M 201 (ix (nI 13)) (v2 + (nI 1))) fun M3 => gd (nI 2) 9 (oli (M3 204 (ix (nI 2))) fun v4 => osw v4 [((nI 1), gd (nI 1) 9 (oli (M3 204 (ix (nI 1))) fun v5 => obv (xX12_answers v5 (nI 0) M3) fun M6 => some (v4, M6))), ((nI 2), gd (nI 1) 9 (oli (M3 204 (ix (nI 1))) fun v7 => obv (xX12_answers v7 (nI 1) M3) fun M8 => some (v4, M8))), ((nI 3), gd (nI 1) 9 (oli (M3 204 (ix (nI 1))) fun v9 => obv (xX12_comes v9 M3) fun M10 => some (v4, M10))), ((nI 4), gd (nI 1) 9 (oli (M3 204 (ix (nI 1))) fun v11 => obv (xX12_isAsked v11 M3) fun M12 => some (v4, M12)))] (gd (nI 1) 9 (oli (M3 204 (ix (nI 1))) fun v13 => obv (xX12_isRecalled v13 M3) fun M14 => some (v4, M14)))))) else gd (((nI 586) + l2) + (nI 9)) 7460 (oli (M 201 (ix (((nI 586) + l2) + (nI 9)))) fun v15 => gd ((nI 586) + l2) 7460 (oml (mw M 201 (ix ((nI 586) + l2)) v15) fun M16 => xX12_delivers_42  n (l2 + (nI 1)) M16))))
set_option maxRecDepth 20000 in
set_option maxHeartbeats 2000000 in
theorem tX12_delivers_42    : ∀ (n : Nat) (l2 : Int32) (M : j_M), J (ρ := Int32 × j_M) yX12_delivers cX12_delivers 3 (some .int) 7 167 j_ei 42 [(0, .inr (17, 0, 200)), (2, .inl (l2))] [] M (xX12_delivers_42  n l2 M) := by
  intro n
  induction n with
  | zero => intros; exact J_none
  | succ n ih =>
    intro l2 M
    rw [xX12_delivers_42.eq_2]
    refine K_iload_n (q := 43) 1 dX12_delivers_42 rfl rfl rfl ?_
    refine K_bipush (q := 45) (v := nI 9) dX12_delivers_43 rfl rfl ?_
    refine K_aload_n (q := 46) 0 dX12_delivers_45 rfl rfl rfl ?_
    refine K_getR (q := 49) (ci := 7) (a2 := 201) 0 dX12_delivers_46 fRX12_9 rfl rfl (by decide) rfl rfl ?_
    refine K_bipush (q := 51) (v := nI 7) dX12_delivers_49 rfl rfl ?_
    refine K_iald (q := 52) dX12_delivers_51 rfl (fun v1 => ?_)
    refine K_imul (q := 53) dX12_delivers_52 rfl ?_
    refine K_icmp_ge (q := 56) (tgt := 85) dX12_delivers_53 rfl ?_ rfl ?_
    · refine K_aload_n (q := 86) 0 dX12_delivers_85 rfl rfl rfl ?_
      refine K_getR (q := 89) (ci := 7) (a2 := 201) 0 dX12_delivers_86 fRX12_9 rfl rfl (by decide) rfl rfl ?_
      refine K_bipush (q := 91) (v := nI 13) dX12_delivers_89 rfl rfl ?_
      refine K_dup2 (q := 92) dX12_delivers_91 rfl ?_
      refine K_iald (q := 93) dX12_delivers_92 rfl (fun v2 => ?_)
      refine K_iconst (q := 94) (v := nI 1) dX12_delivers_93 rfl rfl ?_
      refine K_iadd (q := 95) dX12_delivers_94 rfl ?_
      refine K_iast (q := 96) dX12_delivers_95 rfl (fun M3 => ?_)
      refine K_aload_n (q := 97) 0 dX12_delivers_96 rfl rfl rfl ?_
      refine K_getR (q := 100) (ci := 7) (a2 := 204) 4 dX12_delivers_97 fRX12_19 rfl rfl (by decide) rfl rfl ?_
      refine K_iconst (q := 101) (v := nI 2) dX12_delivers_100 rfl rfl ?_
      refine K_iald (q := 102) dX12_delivers_101 rfl (fun v4 => ?_)
      refine K_istore_n (q := 103) (ll' := [(2, .inl (v4)), (0, .inr (17, 0, 200))]) dX12_delivers_102 rfl (by decide) rfl rfl ?_
      refine K_iload_n (q := 104) 0 dX12_delivers_103 rfl rfl rfl ?_
      refine K_tsw (dt := 190) [136, 150, 164, 177] dX12_delivers_104 rfl rfl rfl rfl ⟨?_, ?_, ?_, ?_, trivial⟩ ?_
      · refine K_aload_n (q := 137) 1 dX12_delivers_136 rfl rfl rfl ?_
        refine K_aload_n (q := 138) 1 dX12_delivers_137 rfl rfl rfl ?_
        refine K_getR (q := 141) (ci := 7) (a2 := 204) 4 dX12_delivers_138 fRX12_19 rfl rfl (by decide) rfl rfl ?_
        refine K_iconst (q := 142) (v := nI 1) dX12_delivers_141 rfl rfl ?_
        refine K_iald (q := 143) dX12_delivers_142 rfl (fun v5 => ?_)
        refine K_iconst (q := 144) (v := nI 0) dX12_delivers_143 rfl rfl ?_
        refine K_cvv (q := 147) [.inl (v5), .inl ((nI 0))] dX12_delivers_144 cb_X12_answers cvRX12_165 rc_7 (show (17 : Nat) ≠ 0 by decide) rfl (Nat.le_of_ble_eq_true rfl) ⟨by decide, by decide⟩ (Nat.le_of_ble_eq_true rfl) rfl (tX12_answers v5 (nI 0) M3) rfl (fun M6 => ?_)
        refine J_goto (tgt := 200) dX12_delivers_147 rfl ?_
        refine K_iload_n (q := 201) 0 dX12_delivers_200 rfl rfl rfl ?_
        exact J_iret dX12_delivers_201
      · refine K_aload_n (q := 151) 1 dX12_delivers_150 rfl rfl rfl ?_
        refine K_aload_n (q := 152) 1 dX12_delivers_151 rfl rfl rfl ?_
        refine K_getR (q := 155) (ci := 7) (a2 := 204) 4 dX12_delivers_152 fRX12_19 rfl rfl (by decide) rfl rfl ?_
        refine K_iconst (q := 156) (v := nI 1) dX12_delivers_155 rfl rfl ?_
        refine K_iald (q := 157) dX12_delivers_156 rfl (fun v7 => ?_)
        refine K_iconst (q := 158) (v := nI 1) dX12_delivers_157 rfl rfl ?_
        refine K_cvv (q := 161) [.inl (v7), .inl ((nI 1))] dX12_delivers_158 cb_X12_answers cvRX12_165 rc_7 (show (17 : Nat) ≠ 0 by decide) rfl (Nat.le_of_ble_eq_true rfl) ⟨by decide, by decide⟩ (Nat.le_of_ble_eq_true rfl) rfl (tX12_answers v7 (nI 1) M3) rfl (fun M8 => ?_)
        refine J_goto (tgt := 200) dX12_delivers_161 rfl ?_
        refine K_iload_n (q := 201) 0 dX12_delivers_200 rfl rfl rfl ?_
        exact J_iret dX12_delivers_201
      · refine K_aload_n (q := 165) 1 dX12_delivers_164 rfl rfl rfl ?_
        refine K_aload_n (q := 166) 1 dX12_delivers_165 rfl rfl rfl ?_
        refine K_getR (q := 169) (ci := 7) (a2 := 204) 4 dX12_delivers_166 fRX12_19 rfl rfl (by decide) rfl rfl ?_
        refine K_iconst (q := 170) (v := nI 1) dX12_delivers_169 rfl rfl ?_
        refine K_iald (q := 171) dX12_delivers_170 rfl (fun v9 => ?_)
        refine K_cvv (q := 174) [.inl (v9)] dX12_delivers_171 cb_X12_comes cvRX12_169 rc_7 (show (17 : Nat) ≠ 0 by decide) rfl (Nat.le_of_ble_eq_true rfl) ⟨by decide, by decide⟩ (Nat.le_of_ble_eq_true rfl) rfl (tX12_comes v9 M3) rfl (fun M10 => ?_)
        refine J_goto (tgt := 200) dX12_delivers_174 rfl ?_
        refine K_iload_n (q := 201) 0 dX12_delivers_200 rfl rfl rfl ?_
        exact J_iret dX12_delivers_201
      · refine K_aload_n (q := 178) 1 dX12_delivers_177 rfl rfl rfl ?_
        refine K_aload_n (q := 179) 1 dX12_delivers_178 rfl rfl rfl ?_
        refine K_getR (q := 182) (ci := 7) (a2 := 204) 4 dX12_delivers_179 fRX12_19 rfl rfl (by decide) rfl rfl ?_
        refine K_iconst (q := 183) (v := nI 1) dX12_delivers_182 rfl rfl ?_
        refine K_iald (q := 184) dX12_delivers_183 rfl (fun v11 => ?_)
        refine K_cvv (q := 187) [.inl (v11)] dX12_delivers_184 cb_X12_isAsked cvRX12_172 rc_7 (show (17 : Nat) ≠ 0 by decide) rfl (Nat.le_of_ble_eq_true rfl) ⟨by decide, by decide⟩ (Nat.le_of_ble_eq_true rfl) rfl (tX12_isAsked v11 M3) rfl (fun M12 => ?_)
        refine J_goto (tgt := 200) dX12_delivers_187 rfl ?_
        refine K_iload_n (q := 201) 0 dX12_delivers_200 rfl rfl rfl ?_
        exact J_iret dX12_delivers_201
      · refine K_aload_n (q := 191) 1 dX12_delivers_190 rfl rfl rfl ?_
        refine K_aload_n (q := 192) 1 dX12_delivers_191 rfl rfl rfl ?_
        refine K_getR (q := 195) (ci := 7) (a2 := 204) 4 dX12_delivers_192 fRX12_19 rfl rfl (by decide) rfl rfl ?_
        refine K_iconst (q := 196) (v := nI 1) dX12_delivers_195 rfl rfl ?_
        refine K_iald (q := 197) dX12_delivers_196 rfl (fun v13 => ?_)
        refine K_cvv (q := 200) [.inl (v13)] dX12_delivers_197 cb_X12_isRecalled cvRX12_175 rc_7 (show (17 : Nat) ≠ 0 by decide) rfl (Nat.le_of_ble_eq_true rfl) ⟨by decide, by decide⟩ (Nat.le_of_ble_eq_true rfl) rfl (tX12_isRecalled v13 M3) rfl (fun M14 => ?_)
        refine K_iload_n (q := 201) 0 dX12_delivers_200 rfl rfl rfl ?_
        exact J_iret dX12_delivers_201
    · refine K_aload_n (q := 57) 0 dX12_delivers_56 rfl rfl rfl ?_
      refine K_getR (q := 60) (ci := 7) (a2 := 201) 0 dX12_delivers_57 fRX12_9 rfl rfl (by decide) rfl rfl ?_
      refine K_sipush (q := 63) (v := nI 586) dX12_delivers_60 rfl rfl ?_
      refine K_iload_n (q := 64) 1 dX12_delivers_63 rfl rfl rfl ?_
      refine K_iadd (q := 65) dX12_delivers_64 rfl ?_
      refine K_aload_n (q := 66) 0 dX12_delivers_65 rfl rfl rfl ?_
      refine K_getR (q := 69) (ci := 7) (a2 := 201) 0 dX12_delivers_66 fRX12_9 rfl rfl (by decide) rfl rfl ?_
      refine K_sipush (q := 72) (v := nI 586) dX12_delivers_69 rfl rfl ?_
      refine K_iload_n (q := 73) 1 dX12_delivers_72 rfl rfl rfl ?_
      refine K_iadd (q := 74) dX12_delivers_73 rfl ?_
      refine K_bipush (q := 76) (v := nI 9) dX12_delivers_74 rfl rfl ?_
      refine K_iadd (q := 77) dX12_delivers_76 rfl ?_
      refine K_iald (q := 78) dX12_delivers_77 rfl (fun v15 => ?_)
      refine K_iast (q := 79) dX12_delivers_78 rfl (fun M16 => ?_)
      refine K_iinc (q := 82) (v := l2 + (nI 1)) (ll' := [(2, .inl (l2 + (nI 1))), (0, .inr (17, 0, 200))]) 1 dX12_delivers_79 rfl rfl (by decide) rfl rfl ?_
      refine J_goto (tgt := 42) dX12_delivers_82 rfl ?_
      exact J_sub [1, 0] (ih (l2 + (nI 1)) M16) rfl
def xX12_delivers_2   : Nat → Int32 → Int32 → j_M → Option (Int32 × j_M)
  | 0, _, _, _ => none
  | n + 1, l1, l2, M => (if (nI 9) ≤ l2 then gd (nI 7) 7460 (oli (M 201 (ix (nI 7))) fun v1 => gd (nI 7) 7460 (oml (mw M 201 (ix (nI 7)) (v1 - (nI 1))) fun M2 => xX12_delivers_42 fu ((nI 9) * l1) M2)) else obi (xX12_of l1 l2 M) fun v4 M3 => gd l2 9 (oml (mw M3 204 (ix l2) v4) fun M5 => xX12_delivers_2  n l1 (l2 + (nI 1)) M5))
set_option maxRecDepth 20000 in
set_option maxHeartbeats 2000000 in
theorem tX12_delivers_2    : ∀ (n : Nat) (l1 : Int32) (l2 : Int32) (M : j_M), J (ρ := Int32 × j_M) yX12_delivers cX12_delivers 3 (some .int) 7 167 j_ei 2 [(0, .inr (17, 0, 200)), (1, .inl (l1)), (2, .inl (l2))] [] M (xX12_delivers_2  n l1 l2 M) := by
  intro n
  induction n with
  | zero => intros; exact J_none
  | succ n ih =>
    intro l1 l2 M
    rw [xX12_delivers_2.eq_2]
    refine K_iload_n (q := 3) 2 dX12_delivers_2 rfl rfl rfl ?_
    refine K_bipush (q := 5) (v := nI 9) dX12_delivers_3 rfl rfl ?_
    refine K_icmp_ge (q := 8) (tgt := 26) dX12_delivers_5 rfl ?_ rfl ?_
    · refine K_aload_n (q := 27) 0 dX12_delivers_26 rfl rfl rfl ?_
      refine K_getR (q := 30) (ci := 7) (a2 := 201) 0 dX12_delivers_27 fRX12_9 rfl rfl (by decide) rfl rfl ?_
      refine K_bipush (q := 32) (v := nI 7) dX12_delivers_30 rfl rfl ?_
      refine K_dup2 (q := 33) dX12_delivers_32 rfl ?_
      refine K_iald (q := 34) dX12_delivers_33 rfl (fun v1 => ?_)
      refine K_iconst (q := 35) (v := nI 1) dX12_delivers_34 rfl rfl ?_
      refine K_isub (q := 36) dX12_delivers_35 rfl ?_
      refine K_iast (q := 37) dX12_delivers_36 rfl (fun M2 => ?_)
      refine K_bipush (q := 39) (v := nI 9) dX12_delivers_37 rfl rfl ?_
      refine K_iload_n (q := 40) 1 dX12_delivers_39 rfl rfl rfl ?_
      refine K_imul (q := 41) dX12_delivers_40 rfl ?_
      refine K_istore_n (q := 42) (ll' := [(2, .inl ((nI 9) * l1)), (0, .inr (17, 0, 200)), (1, .inl (l1))]) dX12_delivers_41 rfl (by decide) rfl rfl ?_
      exact J_sub [1, 0] (tX12_delivers_42 fu ((nI 9) * l1) M2) rfl
    · refine K_aload_n (q := 9) 0 dX12_delivers_8 rfl rfl rfl ?_
      refine K_getR (q := 12) (ci := 7) (a2 := 204) 4 dX12_delivers_9 fRX12_19 rfl rfl (by decide) rfl rfl ?_
      refine K_iload_n (q := 13) 2 dX12_delivers_12 rfl rfl rfl ?_
      refine K_aload_n (q := 14) 0 dX12_delivers_13 rfl rfl rfl ?_
      refine K_iload_n (q := 15) 1 dX12_delivers_14 rfl rfl rfl ?_
      refine K_iload_n (q := 16) 2 dX12_delivers_15 rfl rfl rfl ?_
      refine K_cvi (q := 19) [.inl (l1), .inl (l2)] dX12_delivers_16 cb_X12_of cvRX12_79 rc_7 (show (17 : Nat) ≠ 0 by decide) rfl (Nat.le_of_ble_eq_true rfl) ⟨by decide, by decide⟩ (Nat.le_of_ble_eq_true rfl) rfl (tX12_of l1 l2 M) rfl (fun v4 M3 => ?_)
      refine K_iast (q := 20) dX12_delivers_19 rfl (fun M5 => ?_)
      refine K_iinc (q := 23) (v := l2 + (nI 1)) (ll' := [(2, .inl (l2 + (nI 1))), (0, .inr (17, 0, 200)), (1, .inl (l1))]) 2 dX12_delivers_20 rfl rfl (by decide) rfl rfl ?_
      refine J_goto (tgt := 2) dX12_delivers_23 rfl ?_
      exact J_sub [1, 2, 0] (ih l1 (l2 + (nI 1)) M5) rfl
def xX12_delivers  (l1 : Int32) (M : j_M) : Option (Int32 × j_M) := xX12_delivers_2 fu l1 (nI 0) M
set_option maxRecDepth 20000 in
set_option maxHeartbeats 2000000 in
theorem tX12_delivers  (l1 : Int32) (M : j_M) : J (ρ := Int32 × j_M) yX12_delivers cX12_delivers 3 (some .int) 7 167 j_ei 0 [(0, .inr (17, 0, 200)), (1, .inl (l1))] [] M (xX12_delivers  l1 M) := by
  unfold xX12_delivers
  refine K_iconst (q := 1) (v := nI 0) dX12_delivers_0 rfl rfl ?_
  refine K_istore_n (q := 2) (ll' := [(2, .inl ((nI 0))), (0, .inr (17, 0, 200)), (1, .inl (l1))]) dX12_delivers_1 rfl (by decide) rfl rfl ?_
  exact J_sub [1, 2, 0] (tX12_delivers_2 fu l1 (nI 0) M) rfl
theorem dX12_mustWait_0 : decode cX12_mustWait 0 = .ok (.iconst 0, 1) := by decide +kernel
theorem dX12_mustWait_1 : decode cX12_mustWait 1 = .ok (.istore_n 2, 1) := by decide +kernel
theorem dX12_mustWait_2 : decode cX12_mustWait 2 = .ok (.iload_n 2, 1) := by decide +kernel
theorem dX12_mustWait_3 : decode cX12_mustWait 3 = .ok (.aload_n 0, 1) := by decide +kernel
theorem dX12_mustWait_4 : decode cX12_mustWait 4 = .ok (.getfield 9, 3) := by decide +kernel
theorem dX12_mustWait_7 : decode cX12_mustWait 7 = .ok (.bipush 7, 2) := by decide +kernel
theorem dX12_mustWait_9 : decode cX12_mustWait 9 = .ok (.iaload, 1) := by decide +kernel
theorem dX12_mustWait_10 : decode cX12_mustWait 10 = .ok (.if_icmp .ge 31, 3) := by decide +kernel
theorem dX12_mustWait_13 : decode cX12_mustWait 13 = .ok (.aload_n 0, 1) := by decide +kernel
theorem dX12_mustWait_14 : decode cX12_mustWait 14 = .ok (.iload_n 2, 1) := by decide +kernel
theorem dX12_mustWait_15 : decode cX12_mustWait 15 = .ok (.iconst 0, 1) := by decide +kernel
theorem dX12_mustWait_16 : decode cX12_mustWait 16 = .ok (.invokevirtual 79, 3) := by decide +kernel
theorem dX12_mustWait_19 : decode cX12_mustWait 19 = .ok (.iload_n 1, 1) := by decide +kernel
theorem dX12_mustWait_20 : decode cX12_mustWait 20 = .ok (.if_icmp .ne 15, 3) := by decide +kernel
theorem dX12_mustWait_23 : decode cX12_mustWait 23 = .ok (.aload_n 0, 1) := by decide +kernel
theorem dX12_mustWait_24 : decode cX12_mustWait 24 = .ok (.iload_n 2, 1) := by decide +kernel
theorem dX12_mustWait_25 : decode cX12_mustWait 25 = .ok (.iconst 2, 1) := by decide +kernel
theorem dX12_mustWait_26 : decode cX12_mustWait 26 = .ok (.invokevirtual 79, 3) := by decide +kernel
theorem dX12_mustWait_29 : decode cX12_mustWait 29 = .ok (.iconst 4, 1) := by decide +kernel
theorem dX12_mustWait_30 : decode cX12_mustWait 30 = .ok (.if_icmp .lt 5, 3) := by decide +kernel
theorem dX12_mustWait_33 : decode cX12_mustWait 33 = .ok (.iconst 1, 1) := by decide +kernel
theorem dX12_mustWait_34 : decode cX12_mustWait 34 = .ok (.ireturn, 1) := by decide +kernel
theorem dX12_mustWait_35 : decode cX12_mustWait 35 = .ok (.iinc 2 1, 3) := by decide +kernel
theorem dX12_mustWait_38 : decode cX12_mustWait 38 = .ok (.goto (-36), 3) := by decide +kernel
theorem dX12_mustWait_41 : decode cX12_mustWait 41 = .ok (.iconst 0, 1) := by decide +kernel
theorem dX12_mustWait_42 : decode cX12_mustWait 42 = .ok (.istore_n 2, 1) := by decide +kernel
theorem dX12_mustWait_43 : decode cX12_mustWait 43 = .ok (.iload_n 2, 1) := by decide +kernel
theorem dX12_mustWait_44 : decode cX12_mustWait 44 = .ok (.aload_n 0, 1) := by decide +kernel
theorem dX12_mustWait_45 : decode cX12_mustWait 45 = .ok (.getfield 9, 3) := by decide +kernel
theorem dX12_mustWait_48 : decode cX12_mustWait 48 = .ok (.iconst 0, 1) := by decide +kernel
theorem dX12_mustWait_49 : decode cX12_mustWait 49 = .ok (.iaload, 1) := by decide +kernel
theorem dX12_mustWait_50 : decode cX12_mustWait 50 = .ok (.if_icmp .ge 77, 3) := by decide +kernel
theorem dX12_mustWait_53 : decode cX12_mustWait 53 = .ok (.aload_n 0, 1) := by decide +kernel
theorem dX12_mustWait_54 : decode cX12_mustWait 54 = .ok (.getfield 9, 3) := by decide +kernel
theorem dX12_mustWait_57 : decode cX12_mustWait 57 = .ok (.sipush 484, 3) := by decide +kernel
theorem dX12_mustWait_60 : decode cX12_mustWait 60 = .ok (.bipush 6, 2) := by decide +kernel
theorem dX12_mustWait_62 : decode cX12_mustWait 62 = .ok (.iload_n 1, 1) := by decide +kernel
theorem dX12_mustWait_63 : decode cX12_mustWait 63 = .ok (.imul, 1) := by decide +kernel
theorem dX12_mustWait_64 : decode cX12_mustWait 64 = .ok (.iadd, 1) := by decide +kernel
theorem dX12_mustWait_65 : decode cX12_mustWait 65 = .ok (.iload_n 2, 1) := by decide +kernel
theorem dX12_mustWait_66 : decode cX12_mustWait 66 = .ok (.iadd, 1) := by decide +kernel
theorem dX12_mustWait_67 : decode cX12_mustWait 67 = .ok (.iaload, 1) := by decide +kernel
theorem dX12_mustWait_68 : decode cX12_mustWait 68 = .ok (.iconst 1, 1) := by decide +kernel
theorem dX12_mustWait_69 : decode cX12_mustWait 69 = .ok (.if_icmp .ne 52, 3) := by decide +kernel
theorem dX12_mustWait_72 : decode cX12_mustWait 72 = .ok (.aload_n 0, 1) := by decide +kernel
theorem dX12_mustWait_73 : decode cX12_mustWait 73 = .ok (.getfield 9, 3) := by decide +kernel
theorem dX12_mustWait_76 : decode cX12_mustWait 76 = .ok (.sipush 358, 3) := by decide +kernel
theorem dX12_mustWait_79 : decode cX12_mustWait 79 = .ok (.bipush 6, 2) := by decide +kernel
theorem dX12_mustWait_81 : decode cX12_mustWait 81 = .ok (.iload_n 1, 1) := by decide +kernel
theorem dX12_mustWait_82 : decode cX12_mustWait 82 = .ok (.imul, 1) := by decide +kernel
theorem dX12_mustWait_83 : decode cX12_mustWait 83 = .ok (.iadd, 1) := by decide +kernel
theorem dX12_mustWait_84 : decode cX12_mustWait 84 = .ok (.iload_n 2, 1) := by decide +kernel
theorem dX12_mustWait_85 : decode cX12_mustWait 85 = .ok (.iadd, 1) := by decide +kernel
theorem dX12_mustWait_86 : decode cX12_mustWait 86 = .ok (.iaload, 1) := by decide +kernel
theorem dX12_mustWait_87 : decode cX12_mustWait 87 = .ok (.iconst 1, 1) := by decide +kernel
theorem dX12_mustWait_88 : decode cX12_mustWait 88 = .ok (.if_icmp .ne 33, 3) := by decide +kernel
theorem dX12_mustWait_91 : decode cX12_mustWait 91 = .ok (.aload_n 0, 1) := by decide +kernel
theorem dX12_mustWait_92 : decode cX12_mustWait 92 = .ok (.getfield 9, 3) := by decide +kernel
theorem dX12_mustWait_95 : decode cX12_mustWait 95 = .ok (.sipush 400, 3) := by decide +kernel
theorem dX12_mustWait_98 : decode cX12_mustWait 98 = .ok (.bipush 6, 2) := by decide +kernel
theorem dX12_mustWait_100 : decode cX12_mustWait 100 = .ok (.iload_n 1, 1) := by decide +kernel
theorem dX12_mustWait_101 : decode cX12_mustWait 101 = .ok (.imul, 1) := by decide +kernel
theorem dX12_mustWait_102 : decode cX12_mustWait 102 = .ok (.iadd, 1) := by decide +kernel
theorem dX12_mustWait_103 : decode cX12_mustWait 103 = .ok (.iload_n 2, 1) := by decide +kernel
theorem dX12_mustWait_104 : decode cX12_mustWait 104 = .ok (.iadd, 1) := by decide +kernel
theorem dX12_mustWait_105 : decode cX12_mustWait 105 = .ok (.iaload, 1) := by decide +kernel
theorem dX12_mustWait_106 : decode cX12_mustWait 106 = .ok (.aload_n 0, 1) := by decide +kernel
theorem dX12_mustWait_107 : decode cX12_mustWait 107 = .ok (.getfield 9, 3) := by decide +kernel
theorem dX12_mustWait_110 : decode cX12_mustWait 110 = .ok (.sipush 292, 3) := by decide +kernel
theorem dX12_mustWait_113 : decode cX12_mustWait 113 = .ok (.iload_n 1, 1) := by decide +kernel
theorem dX12_mustWait_114 : decode cX12_mustWait 114 = .ok (.iadd, 1) := by decide +kernel
theorem dX12_mustWait_115 : decode cX12_mustWait 115 = .ok (.iaload, 1) := by decide +kernel
theorem dX12_mustWait_116 : decode cX12_mustWait 116 = .ok (.if_icmp .ne 5, 3) := by decide +kernel
theorem dX12_mustWait_119 : decode cX12_mustWait 119 = .ok (.iconst 1, 1) := by decide +kernel
theorem dX12_mustWait_120 : decode cX12_mustWait 120 = .ok (.ireturn, 1) := by decide +kernel
theorem dX12_mustWait_121 : decode cX12_mustWait 121 = .ok (.iinc 2 1, 3) := by decide +kernel
theorem dX12_mustWait_124 : decode cX12_mustWait 124 = .ok (.goto (-81), 3) := by decide +kernel
theorem dX12_mustWait_127 : decode cX12_mustWait 127 = .ok (.iconst 0, 1) := by decide +kernel
theorem dX12_mustWait_128 : decode cX12_mustWait 128 = .ok (.ireturn, 1) := by decide +kernel
def xX12_mustWait_43   : Nat → Int32 → Int32 → j_M → Option (Int32 × j_M)
  | 0, _, _, _ => none
  | n + 1, l1, l2, M => gd (nI 0) 7460 (oli (M 201 (ix (nI 0))) fun v1 => (if v1 ≤ l2 then some ((nI 0), M) else gd (((nI 484) + ((nI 6) * l1)) + l2) 7460 (oli (M 201 (ix (((nI 484) + ((nI 6) * l1)) + l2))) fun v2 => (if v2 = (nI 1) then gd (((nI 358) + ((nI 6) * l1)) + l2) 7460 (oli (M 201 (ix (((nI 358) + ((nI 6) * l1)) + l2))) fun v3 => (if v3 = (nI 1) then gd (((nI 400) + ((nI 6) * l1)) + l2) 7460 (oli (M 201 (ix (((nI 400) + ((nI 6) * l1)) + l2))) fun v4 => gd ((nI 292) + l1) 7460 (oli (M 201 (ix ((nI 292) + l1))) fun v5 => (if v4 = v5 then some ((nI 1), M) else xX12_mustWait_43  n l1 (l2 + (nI 1)) M))) else xX12_mustWait_43  n l1 (l2 + (nI 1)) M)) else xX12_mustWait_43  n l1 (l2 + (nI 1)) M))))
set_option maxRecDepth 20000 in
set_option maxHeartbeats 2000000 in
theorem tX12_mustWait_43    : ∀ (n : Nat) (l1 : Int32) (l2 : Int32) (M : j_M), J (ρ := Int32 × j_M) yX12_mustWait cX12_mustWait 3 (some .boolean) 1 22 j_ei 43 [(0, .inr (17, 0, 200)), (1, .inl (l1)), (2, .inl (l2))] [] M (xX12_mustWait_43  n l1 l2 M) := by
  intro n
  induction n with
  | zero => intros; exact J_none
  | succ n ih =>
    intro l1 l2 M
    rw [xX12_mustWait_43.eq_2]
    refine K_iload_n (q := 44) 2 dX12_mustWait_43 rfl rfl rfl ?_
    refine K_aload_n (q := 45) 0 dX12_mustWait_44 rfl rfl rfl ?_
    refine K_getR (q := 48) (ci := 7) (a2 := 201) 0 dX12_mustWait_45 fRX12_9 rfl rfl (by decide) rfl rfl ?_
    refine K_iconst (q := 49) (v := nI 0) dX12_mustWait_48 rfl rfl ?_
    refine K_iald (q := 50) dX12_mustWait_49 rfl (fun v1 => ?_)
    refine K_icmp_ge (q := 53) (tgt := 127) dX12_mustWait_50 rfl ?_ rfl ?_
    · refine K_iconst (q := 128) (v := nI 0) dX12_mustWait_127 rfl rfl ?_
      exact J_zret dX12_mustWait_128 (by decide)
    · refine K_aload_n (q := 54) 0 dX12_mustWait_53 rfl rfl rfl ?_
      refine K_getR (q := 57) (ci := 7) (a2 := 201) 0 dX12_mustWait_54 fRX12_9 rfl rfl (by decide) rfl rfl ?_
      refine K_sipush (q := 60) (v := nI 484) dX12_mustWait_57 rfl rfl ?_
      refine K_bipush (q := 62) (v := nI 6) dX12_mustWait_60 rfl rfl ?_
      refine K_iload_n (q := 63) 1 dX12_mustWait_62 rfl rfl rfl ?_
      refine K_imul (q := 64) dX12_mustWait_63 rfl ?_
      refine K_iadd (q := 65) dX12_mustWait_64 rfl ?_
      refine K_iload_n (q := 66) 2 dX12_mustWait_65 rfl rfl rfl ?_
      refine K_iadd (q := 67) dX12_mustWait_66 rfl ?_
      refine K_iald (q := 68) dX12_mustWait_67 rfl (fun v2 => ?_)
      refine K_iconst (q := 69) (v := nI 1) dX12_mustWait_68 rfl rfl ?_
      refine K_icmp_ne (q := 72) (tgt := 121) dX12_mustWait_69 rfl ?_ rfl ?_
      · refine K_iinc (q := 124) (v := l2 + (nI 1)) (ll' := [(2, .inl (l2 + (nI 1))), (0, .inr (17, 0, 200)), (1, .inl (l1))]) 2 dX12_mustWait_121 rfl rfl (by decide) rfl rfl ?_
        refine J_goto (tgt := 43) dX12_mustWait_124 rfl ?_
        exact J_sub [1, 2, 0] (ih l1 (l2 + (nI 1)) M) rfl
      · refine K_aload_n (q := 73) 0 dX12_mustWait_72 rfl rfl rfl ?_
        refine K_getR (q := 76) (ci := 7) (a2 := 201) 0 dX12_mustWait_73 fRX12_9 rfl rfl (by decide) rfl rfl ?_
        refine K_sipush (q := 79) (v := nI 358) dX12_mustWait_76 rfl rfl ?_
        refine K_bipush (q := 81) (v := nI 6) dX12_mustWait_79 rfl rfl ?_
        refine K_iload_n (q := 82) 1 dX12_mustWait_81 rfl rfl rfl ?_
        refine K_imul (q := 83) dX12_mustWait_82 rfl ?_
        refine K_iadd (q := 84) dX12_mustWait_83 rfl ?_
        refine K_iload_n (q := 85) 2 dX12_mustWait_84 rfl rfl rfl ?_
        refine K_iadd (q := 86) dX12_mustWait_85 rfl ?_
        refine K_iald (q := 87) dX12_mustWait_86 rfl (fun v3 => ?_)
        refine K_iconst (q := 88) (v := nI 1) dX12_mustWait_87 rfl rfl ?_
        refine K_icmp_ne (q := 91) (tgt := 121) dX12_mustWait_88 rfl ?_ rfl ?_
        · refine K_iinc (q := 124) (v := l2 + (nI 1)) (ll' := [(2, .inl (l2 + (nI 1))), (0, .inr (17, 0, 200)), (1, .inl (l1))]) 2 dX12_mustWait_121 rfl rfl (by decide) rfl rfl ?_
          refine J_goto (tgt := 43) dX12_mustWait_124 rfl ?_
          exact J_sub [1, 2, 0] (ih l1 (l2 + (nI 1)) M) rfl
        · refine K_aload_n (q := 92) 0 dX12_mustWait_91 rfl rfl rfl ?_
          refine K_getR (q := 95) (ci := 7) (a2 := 201) 0 dX12_mustWait_92 fRX12_9 rfl rfl (by decide) rfl rfl ?_
          refine K_sipush (q := 98) (v := nI 400) dX12_mustWait_95 rfl rfl ?_
          refine K_bipush (q := 100) (v := nI 6) dX12_mustWait_98 rfl rfl ?_
          refine K_iload_n (q := 101) 1 dX12_mustWait_100 rfl rfl rfl ?_
          refine K_imul (q := 102) dX12_mustWait_101 rfl ?_
          refine K_iadd (q := 103) dX12_mustWait_102 rfl ?_
          refine K_iload_n (q := 104) 2 dX12_mustWait_103 rfl rfl rfl ?_
          refine K_iadd (q := 105) dX12_mustWait_104 rfl ?_
          refine K_iald (q := 106) dX12_mustWait_105 rfl (fun v4 => ?_)
          refine K_aload_n (q := 107) 0 dX12_mustWait_106 rfl rfl rfl ?_
          refine K_getR (q := 110) (ci := 7) (a2 := 201) 0 dX12_mustWait_107 fRX12_9 rfl rfl (by decide) rfl rfl ?_
          refine K_sipush (q := 113) (v := nI 292) dX12_mustWait_110 rfl rfl ?_
          refine K_iload_n (q := 114) 1 dX12_mustWait_113 rfl rfl rfl ?_
          refine K_iadd (q := 115) dX12_mustWait_114 rfl ?_
          refine K_iald (q := 116) dX12_mustWait_115 rfl (fun v5 => ?_)
          refine K_icmp_ne (q := 119) (tgt := 121) dX12_mustWait_116 rfl ?_ rfl ?_
          · refine K_iinc (q := 124) (v := l2 + (nI 1)) (ll' := [(2, .inl (l2 + (nI 1))), (0, .inr (17, 0, 200)), (1, .inl (l1))]) 2 dX12_mustWait_121 rfl rfl (by decide) rfl rfl ?_
            refine J_goto (tgt := 43) dX12_mustWait_124 rfl ?_
            exact J_sub [1, 2, 0] (ih l1 (l2 + (nI 1)) M) rfl
          · refine K_iconst (q := 120) (v := nI 1) dX12_mustWait_119 rfl rfl ?_
            exact J_zret dX12_mustWait_120 (by decide)
def xX12_mustWait_2   : Nat → Int32 → Int32 → j_M → Option (Int32 × j_M)
  | 0, _, _, _ => none
  | n + 1, l1, l2, M => gd (nI 7) 7460 (oli (M 201 (ix (nI 7))) fun v1 => (if v1 ≤ l2 then xX12_mustWait_43 fu l1 (nI 0) M else obi (xX12_of l2 (nI 0) M) fun v3 M2 => (if v3 = l1 then obi (xX12_of l2 (nI 2) M2) fun v5 M4 => (if v5 < (nI 4) then xX12_mustWait_2  n l1 (l2 + (nI 1)) M4 else some ((nI 1), M4)) else xX12_mustWait_2  n l1 (l2 + (nI 1)) M2)))
set_option maxRecDepth 20000 in
set_option maxHeartbeats 2000000 in
theorem tX12_mustWait_2    : ∀ (n : Nat) (l1 : Int32) (l2 : Int32) (M : j_M), J (ρ := Int32 × j_M) yX12_mustWait cX12_mustWait 3 (some .boolean) 1 22 j_ei 2 [(0, .inr (17, 0, 200)), (1, .inl (l1)), (2, .inl (l2))] [] M (xX12_mustWait_2  n l1 l2 M) := by
  intro n
  induction n with
  | zero => intros; exact J_none
  | succ n ih =>
    intro l1 l2 M
    rw [xX12_mustWait_2.eq_2]
    refine K_iload_n (q := 3) 2 dX12_mustWait_2 rfl rfl rfl ?_
    refine K_aload_n (q := 4) 0 dX12_mustWait_3 rfl rfl rfl ?_
    refine K_getR (q := 7) (ci := 7) (a2 := 201) 0 dX12_mustWait_4 fRX12_9 rfl rfl (by decide) rfl rfl ?_
    refine K_bipush (q := 9) (v := nI 7) dX12_mustWait_7 rfl rfl ?_
    refine K_iald (q := 10) dX12_mustWait_9 rfl (fun v1 => ?_)
    refine K_icmp_ge (q := 13) (tgt := 41) dX12_mustWait_10 rfl ?_ rfl ?_
    · refine K_iconst (q := 42) (v := nI 0) dX12_mustWait_41 rfl rfl ?_
      refine K_istore_n (q := 43) (ll' := [(2, .inl ((nI 0))), (0, .inr (17, 0, 200)), (1, .inl (l1))]) dX12_mustWait_42 rfl (by decide) rfl rfl ?_
      exact J_sub [1, 2, 0] (tX12_mustWait_43 fu l1 (nI 0) M) rfl
    · refine K_aload_n (q := 14) 0 dX12_mustWait_13 rfl rfl rfl ?_
      refine K_iload_n (q := 15) 2 dX12_mustWait_14 rfl rfl rfl ?_
      refine K_iconst (q := 16) (v := nI 0) dX12_mustWait_15 rfl rfl ?_
      refine K_cvi (q := 19) [.inl (l2), .inl ((nI 0))] dX12_mustWait_16 cb_X12_of cvRX12_79 rc_7 (show (17 : Nat) ≠ 0 by decide) rfl (Nat.le_of_ble_eq_true rfl) ⟨by decide, by decide⟩ (Nat.le_of_ble_eq_true rfl) rfl (tX12_of l2 (nI 0) M) rfl (fun v3 M2 => ?_)
      refine K_iload_n (q := 20) 1 dX12_mustWait_19 rfl rfl rfl ?_
      refine K_icmp_ne (q := 23) (tgt := 35) dX12_mustWait_20 rfl ?_ rfl ?_
      · refine K_iinc (q := 38) (v := l2 + (nI 1)) (ll' := [(2, .inl (l2 + (nI 1))), (0, .inr (17, 0, 200)), (1, .inl (l1))]) 2 dX12_mustWait_35 rfl rfl (by decide) rfl rfl ?_
        refine J_goto (tgt := 2) dX12_mustWait_38 rfl ?_
        exact J_sub [1, 2, 0] (ih l1 (l2 + (nI 1)) M2) rfl
      · refine K_aload_n (q := 24) 0 dX12_mustWait_23 rfl rfl rfl ?_
        refine K_iload_n (q := 25) 2 dX12_mustWait_24 rfl rfl rfl ?_
        refine K_iconst (q := 26) (v := nI 2) dX12_mustWait_25 rfl rfl ?_
        refine K_cvi (q := 29) [.inl (l2), .inl ((nI 2))] dX12_mustWait_26 cb_X12_of cvRX12_79 rc_7 (show (17 : Nat) ≠ 0 by decide) rfl (Nat.le_of_ble_eq_true rfl) ⟨by decide, by decide⟩ (Nat.le_of_ble_eq_true rfl) rfl (tX12_of l2 (nI 2) M2) rfl (fun v5 M4 => ?_)
        refine K_iconst (q := 30) (v := nI 4) dX12_mustWait_29 rfl rfl ?_
        refine K_icmp_lt (q := 33) (tgt := 35) dX12_mustWait_30 rfl ?_ rfl ?_
        · refine K_iinc (q := 38) (v := l2 + (nI 1)) (ll' := [(2, .inl (l2 + (nI 1))), (0, .inr (17, 0, 200)), (1, .inl (l1))]) 2 dX12_mustWait_35 rfl rfl (by decide) rfl rfl ?_
          refine J_goto (tgt := 2) dX12_mustWait_38 rfl ?_
          exact J_sub [1, 2, 0] (ih l1 (l2 + (nI 1)) M4) rfl
        · refine K_iconst (q := 34) (v := nI 1) dX12_mustWait_33 rfl rfl ?_
          exact J_zret dX12_mustWait_34 (by decide)
def xX12_mustWait  (l1 : Int32) (M : j_M) : Option (Int32 × j_M) := xX12_mustWait_2 fu l1 (nI 0) M
set_option maxRecDepth 20000 in
set_option maxHeartbeats 2000000 in
theorem tX12_mustWait  (l1 : Int32) (M : j_M) : J (ρ := Int32 × j_M) yX12_mustWait cX12_mustWait 3 (some .boolean) 1 22 j_ei 0 [(0, .inr (17, 0, 200)), (1, .inl (l1))] [] M (xX12_mustWait  l1 M) := by
  unfold xX12_mustWait
  refine K_iconst (q := 1) (v := nI 0) dX12_mustWait_0 rfl rfl ?_
  refine K_istore_n (q := 2) (ll' := [(2, .inl ((nI 0))), (0, .inr (17, 0, 200)), (1, .inl (l1))]) dX12_mustWait_1 rfl (by decide) rfl rfl ?_
  exact J_sub [1, 2, 0] (tX12_mustWait_2 fu l1 (nI 0) M) rfl
theorem dX12_ticksOf_0 : decode cX12_ticksOf 0 = .ok (.aload_n 0, 1) := by decide +kernel
theorem dX12_ticksOf_1 : decode cX12_ticksOf 1 = .ok (.getfield 9, 3) := by decide +kernel
theorem dX12_ticksOf_4 : decode cX12_ticksOf 4 = .ok (.sipush 292, 3) := by decide +kernel
theorem dX12_ticksOf_7 : decode cX12_ticksOf 7 = .ok (.iload_n 1, 1) := by decide +kernel
theorem dX12_ticksOf_8 : decode cX12_ticksOf 8 = .ok (.iadd, 1) := by decide +kernel
theorem dX12_ticksOf_9 : decode cX12_ticksOf 9 = .ok (.iaload, 1) := by decide +kernel
theorem dX12_ticksOf_10 : decode cX12_ticksOf 10 = .ok (.iconst (-1), 1) := by decide +kernel
theorem dX12_ticksOf_11 : decode cX12_ticksOf 11 = .ok (.if_icmp .eq 43, 3) := by decide +kernel
theorem dX12_ticksOf_14 : decode cX12_ticksOf 14 = .ok (.aload_n 0, 1) := by decide +kernel
theorem dX12_ticksOf_15 : decode cX12_ticksOf 15 = .ok (.getfield 9, 3) := by decide +kernel
theorem dX12_ticksOf_18 : decode cX12_ticksOf 18 = .ok (.sipush 310, 3) := by decide +kernel
theorem dX12_ticksOf_21 : decode cX12_ticksOf 21 = .ok (.iload_n 1, 1) := by decide +kernel
theorem dX12_ticksOf_22 : decode cX12_ticksOf 22 = .ok (.iadd, 1) := by decide +kernel
theorem dX12_ticksOf_23 : decode cX12_ticksOf 23 = .ok (.iaload, 1) := by decide +kernel
theorem dX12_ticksOf_24 : decode cX12_ticksOf 24 = .ok (.iconst 1, 1) := by decide +kernel
theorem dX12_ticksOf_25 : decode cX12_ticksOf 25 = .ok (.if_icmp .eq 29, 3) := by decide +kernel
theorem dX12_ticksOf_28 : decode cX12_ticksOf 28 = .ok (.aload_n 0, 1) := by decide +kernel
theorem dX12_ticksOf_29 : decode cX12_ticksOf 29 = .ok (.getfield 9, 3) := by decide +kernel
theorem dX12_ticksOf_32 : decode cX12_ticksOf 32 = .ok (.iconst 5, 1) := by decide +kernel
theorem dX12_ticksOf_33 : decode cX12_ticksOf 33 = .ok (.iaload, 1) := by decide +kernel
theorem dX12_ticksOf_34 : decode cX12_ticksOf 34 = .ok (.aload_n 0, 1) := by decide +kernel
theorem dX12_ticksOf_35 : decode cX12_ticksOf 35 = .ok (.getfield 9, 3) := by decide +kernel
theorem dX12_ticksOf_38 : decode cX12_ticksOf 38 = .ok (.sipush 532, 3) := by decide +kernel
theorem dX12_ticksOf_41 : decode cX12_ticksOf 41 = .ok (.iload_n 1, 1) := by decide +kernel
theorem dX12_ticksOf_42 : decode cX12_ticksOf 42 = .ok (.iadd, 1) := by decide +kernel
theorem dX12_ticksOf_43 : decode cX12_ticksOf 43 = .ok (.iaload, 1) := by decide +kernel
theorem dX12_ticksOf_44 : decode cX12_ticksOf 44 = .ok (.isub, 1) := by decide +kernel
theorem dX12_ticksOf_45 : decode cX12_ticksOf 45 = .ok (.aload_n 0, 1) := by decide +kernel
theorem dX12_ticksOf_46 : decode cX12_ticksOf 46 = .ok (.getfield 9, 3) := by decide +kernel
theorem dX12_ticksOf_49 : decode cX12_ticksOf 49 = .ok (.iconst 4, 1) := by decide +kernel
theorem dX12_ticksOf_50 : decode cX12_ticksOf 50 = .ok (.iaload, 1) := by decide +kernel
theorem dX12_ticksOf_51 : decode cX12_ticksOf 51 = .ok (.if_icmp .ge 4, 3) := by decide +kernel
theorem dX12_ticksOf_54 : decode cX12_ticksOf 54 = .ok (.return_, 1) := by decide +kernel
theorem dX12_ticksOf_55 : decode cX12_ticksOf 55 = .ok (.aload_n 0, 1) := by decide +kernel
theorem dX12_ticksOf_56 : decode cX12_ticksOf 56 = .ok (.getfield 9, 3) := by decide +kernel
theorem dX12_ticksOf_59 : decode cX12_ticksOf 59 = .ok (.sipush 526, 3) := by decide +kernel
theorem dX12_ticksOf_62 : decode cX12_ticksOf 62 = .ok (.iload_n 1, 1) := by decide +kernel
theorem dX12_ticksOf_63 : decode cX12_ticksOf 63 = .ok (.iadd, 1) := by decide +kernel
theorem dX12_ticksOf_64 : decode cX12_ticksOf 64 = .ok (.iaload, 1) := by decide +kernel
theorem dX12_ticksOf_65 : decode cX12_ticksOf 65 = .ok (.iconst 3, 1) := by decide +kernel
theorem dX12_ticksOf_66 : decode cX12_ticksOf 66 = .ok (.if_icmp .ge 7, 3) := by decide +kernel
theorem dX12_ticksOf_69 : decode cX12_ticksOf 69 = .ok (.iconst 1, 1) := by decide +kernel
theorem dX12_ticksOf_70 : decode cX12_ticksOf 70 = .ok (.goto 4, 3) := by decide +kernel
theorem dX12_ticksOf_73 : decode cX12_ticksOf 73 = .ok (.iconst 0, 1) := by decide +kernel
theorem dX12_ticksOf_74 : decode cX12_ticksOf 74 = .ok (.istore_n 2, 1) := by decide +kernel
theorem dX12_ticksOf_75 : decode cX12_ticksOf 75 = .ok (.iload_n 2, 1) := by decide +kernel
theorem dX12_ticksOf_76 : decode cX12_ticksOf 76 = .ok (.ifCond .ne 11, 3) := by decide +kernel
theorem dX12_ticksOf_79 : decode cX12_ticksOf 79 = .ok (.aload_n 0, 1) := by decide +kernel
theorem dX12_ticksOf_80 : decode cX12_ticksOf 80 = .ok (.iload_n 1, 1) := by decide +kernel
theorem dX12_ticksOf_81 : decode cX12_ticksOf 81 = .ok (.invokevirtual 182, 3) := by decide +kernel
theorem dX12_ticksOf_84 : decode cX12_ticksOf 84 = .ok (.ifCond .eq 66, 3) := by decide +kernel
theorem dX12_ticksOf_87 : decode cX12_ticksOf 87 = .ok (.aload_n 0, 1) := by decide +kernel
theorem dX12_ticksOf_88 : decode cX12_ticksOf 88 = .ok (.getfield 9, 3) := by decide +kernel
theorem dX12_ticksOf_91 : decode cX12_ticksOf 91 = .ok (.sipush 526, 3) := by decide +kernel
theorem dX12_ticksOf_94 : decode cX12_ticksOf 94 = .ok (.iload_n 1, 1) := by decide +kernel
theorem dX12_ticksOf_95 : decode cX12_ticksOf 95 = .ok (.iadd, 1) := by decide +kernel
theorem dX12_ticksOf_96 : decode cX12_ticksOf 96 = .ok (.dup2, 1) := by decide +kernel
theorem dX12_ticksOf_97 : decode cX12_ticksOf 97 = .ok (.iaload, 1) := by decide +kernel
theorem dX12_ticksOf_98 : decode cX12_ticksOf 98 = .ok (.iload_n 2, 1) := by decide +kernel
theorem dX12_ticksOf_99 : decode cX12_ticksOf 99 = .ok (.ifCond .eq 7, 3) := by decide +kernel
theorem dX12_ticksOf_102 : decode cX12_ticksOf 102 = .ok (.iconst 1, 1) := by decide +kernel
theorem dX12_ticksOf_103 : decode cX12_ticksOf 103 = .ok (.goto 4, 3) := by decide +kernel
theorem dX12_ticksOf_106 : decode cX12_ticksOf 106 = .ok (.iconst 0, 1) := by decide +kernel
theorem dX12_ticksOf_107 : decode cX12_ticksOf 107 = .ok (.iadd, 1) := by decide +kernel
theorem dX12_ticksOf_108 : decode cX12_ticksOf 108 = .ok (.iastore, 1) := by decide +kernel
theorem dX12_ticksOf_109 : decode cX12_ticksOf 109 = .ok (.aload_n 0, 1) := by decide +kernel
theorem dX12_ticksOf_110 : decode cX12_ticksOf 110 = .ok (.getfield 9, 3) := by decide +kernel
theorem dX12_ticksOf_113 : decode cX12_ticksOf 113 = .ok (.sipush 532, 3) := by decide +kernel
theorem dX12_ticksOf_116 : decode cX12_ticksOf 116 = .ok (.iload_n 1, 1) := by decide +kernel
theorem dX12_ticksOf_117 : decode cX12_ticksOf 117 = .ok (.iadd, 1) := by decide +kernel
theorem dX12_ticksOf_118 : decode cX12_ticksOf 118 = .ok (.aload_n 0, 1) := by decide +kernel
theorem dX12_ticksOf_119 : decode cX12_ticksOf 119 = .ok (.getfield 9, 3) := by decide +kernel
theorem dX12_ticksOf_122 : decode cX12_ticksOf 122 = .ok (.iconst 5, 1) := by decide +kernel
theorem dX12_ticksOf_123 : decode cX12_ticksOf 123 = .ok (.iaload, 1) := by decide +kernel
theorem dX12_ticksOf_124 : decode cX12_ticksOf 124 = .ok (.iastore, 1) := by decide +kernel
theorem dX12_ticksOf_125 : decode cX12_ticksOf 125 = .ok (.aload_n 0, 1) := by decide +kernel
theorem dX12_ticksOf_126 : decode cX12_ticksOf 126 = .ok (.bipush 6, 2) := by decide +kernel
theorem dX12_ticksOf_128 : decode cX12_ticksOf 128 = .ok (.iload_n 1, 1) := by decide +kernel
theorem dX12_ticksOf_129 : decode cX12_ticksOf 129 = .ok (.aload_n 0, 1) := by decide +kernel
theorem dX12_ticksOf_130 : decode cX12_ticksOf 130 = .ok (.getfield 9, 3) := by decide +kernel
theorem dX12_ticksOf_133 : decode cX12_ticksOf 133 = .ok (.sipush 292, 3) := by decide +kernel
theorem dX12_ticksOf_136 : decode cX12_ticksOf 136 = .ok (.iload_n 1, 1) := by decide +kernel
theorem dX12_ticksOf_137 : decode cX12_ticksOf 137 = .ok (.iadd, 1) := by decide +kernel
theorem dX12_ticksOf_138 : decode cX12_ticksOf 138 = .ok (.iaload, 1) := by decide +kernel
theorem dX12_ticksOf_139 : decode cX12_ticksOf 139 = .ok (.invokevirtual 122, 3) := by decide +kernel
theorem dX12_ticksOf_142 : decode cX12_ticksOf 142 = .ok (.aload_n 0, 1) := by decide +kernel
theorem dX12_ticksOf_143 : decode cX12_ticksOf 143 = .ok (.iload_n 1, 1) := by decide +kernel
theorem dX12_ticksOf_144 : decode cX12_ticksOf 144 = .ok (.invokevirtual 146, 3) := by decide +kernel
theorem dX12_ticksOf_147 : decode cX12_ticksOf 147 = .ok (.goto 8, 3) := by decide +kernel
theorem dX12_ticksOf_150 : decode cX12_ticksOf 150 = .ok (.aload_n 0, 1) := by decide +kernel
theorem dX12_ticksOf_151 : decode cX12_ticksOf 151 = .ok (.iload_n 1, 1) := by decide +kernel
theorem dX12_ticksOf_152 : decode cX12_ticksOf 152 = .ok (.invokevirtual 185, 3) := by decide +kernel
theorem dX12_ticksOf_155 : decode cX12_ticksOf 155 = .ok (.return_, 1) := by decide +kernel
def xX12_ticksOf_107   (l1 : Int32) (s2 : Int32) (s1 : Int32) (s0 : Int32) (M : j_M) : Option (j_M) := gd s2 7460 (oml (mw M 201 (ix s2) (s1 + s0)) fun M1 => gd (nI 5) 7460 (oli (M1 201 (ix (nI 5))) fun v2 => gd ((nI 532) + l1) 7460 (oml (mw M1 201 (ix ((nI 532) + l1)) v2) fun M3 => gd ((nI 292) + l1) 7460 (oli (M3 201 (ix ((nI 292) + l1))) fun v4 => obv (xX12_notes (nI 6) l1 v4 M3) fun M5 => obv (xX12_asks l1 M5) fun M6 => some M6))))
set_option maxRecDepth 20000 in
set_option maxHeartbeats 2000000 in
theorem tX12_ticksOf_107    (l1 : Int32) (s2 : Int32) (s1 : Int32) (s0 : Int32) (M : j_M) : J (ρ := j_M) yX12_ticksOf cX12_ticksOf 3 none 7 167 j_ev 107 [(0, .inr (17, 0, 200)), (1, .inl (l1))] [.inl (s0), .inl (s1), .inl (s2), .inr (1, 7460, 201)] M (xX12_ticksOf_107  l1 s2 s1 s0 M) := by
  unfold xX12_ticksOf_107
  refine K_iadd (q := 108) dX12_ticksOf_107 rfl ?_
  refine K_iast (q := 109) dX12_ticksOf_108 rfl (fun M1 => ?_)
  refine K_aload_n (q := 110) 0 dX12_ticksOf_109 rfl rfl rfl ?_
  refine K_getR (q := 113) (ci := 7) (a2 := 201) 0 dX12_ticksOf_110 fRX12_9 rfl rfl (by decide) rfl rfl ?_
  refine K_sipush (q := 116) (v := nI 532) dX12_ticksOf_113 rfl rfl ?_
  refine K_iload_n (q := 117) 1 dX12_ticksOf_116 rfl rfl rfl ?_
  refine K_iadd (q := 118) dX12_ticksOf_117 rfl ?_
  refine K_aload_n (q := 119) 0 dX12_ticksOf_118 rfl rfl rfl ?_
  refine K_getR (q := 122) (ci := 7) (a2 := 201) 0 dX12_ticksOf_119 fRX12_9 rfl rfl (by decide) rfl rfl ?_
  refine K_iconst (q := 123) (v := nI 5) dX12_ticksOf_122 rfl rfl ?_
  refine K_iald (q := 124) dX12_ticksOf_123 rfl (fun v2 => ?_)
  refine K_iast (q := 125) dX12_ticksOf_124 rfl (fun M3 => ?_)
  refine K_aload_n (q := 126) 0 dX12_ticksOf_125 rfl rfl rfl ?_
  refine K_bipush (q := 128) (v := nI 6) dX12_ticksOf_126 rfl rfl ?_
  refine K_iload_n (q := 129) 1 dX12_ticksOf_128 rfl rfl rfl ?_
  refine K_aload_n (q := 130) 0 dX12_ticksOf_129 rfl rfl rfl ?_
  refine K_getR (q := 133) (ci := 7) (a2 := 201) 0 dX12_ticksOf_130 fRX12_9 rfl rfl (by decide) rfl rfl ?_
  refine K_sipush (q := 136) (v := nI 292) dX12_ticksOf_133 rfl rfl ?_
  refine K_iload_n (q := 137) 1 dX12_ticksOf_136 rfl rfl rfl ?_
  refine K_iadd (q := 138) dX12_ticksOf_137 rfl ?_
  refine K_iald (q := 139) dX12_ticksOf_138 rfl (fun v4 => ?_)
  refine K_cvv (q := 142) [.inl ((nI 6)), .inl (l1), .inl (v4)] dX12_ticksOf_139 cb_X12_notes cvRX12_122 rc_7 (show (17 : Nat) ≠ 0 by decide) rfl (Nat.le_of_ble_eq_true rfl) ⟨by decide, by decide⟩ (Nat.le_of_ble_eq_true rfl) rfl (tX12_notes (nI 6) l1 v4 M3) rfl (fun M5 => ?_)
  refine K_aload_n (q := 143) 0 dX12_ticksOf_142 rfl rfl rfl ?_
  refine K_iload_n (q := 144) 1 dX12_ticksOf_143 rfl rfl rfl ?_
  refine K_cvv (q := 147) [.inl (l1)] dX12_ticksOf_144 cb_X12_asks cvRX12_146 rc_7 (show (17 : Nat) ≠ 0 by decide) rfl (Nat.le_of_ble_eq_true rfl) ⟨by decide, by decide⟩ (Nat.le_of_ble_eq_true rfl) rfl (tX12_asks l1 M5) rfl (fun M6 => ?_)
  refine J_goto (tgt := 155) dX12_ticksOf_147 rfl ?_
  exact J_vret dX12_ticksOf_155
def xX12_ticksOf_87   (l1 : Int32) (l2 : Int32) (M : j_M) : Option (j_M) := gd ((nI 526) + l1) 7460 (oli (M 201 (ix ((nI 526) + l1))) fun v1 => (if l2 = (0 : Int32) then xX12_ticksOf_107  l1 ((nI 526) + l1) v1 (nI 0) M else xX12_ticksOf_107  l1 ((nI 526) + l1) v1 (nI 1) M))
set_option maxRecDepth 20000 in
set_option maxHeartbeats 2000000 in
theorem tX12_ticksOf_87    (l1 : Int32) (l2 : Int32) (M : j_M) : J (ρ := j_M) yX12_ticksOf cX12_ticksOf 3 none 7 167 j_ev 87 [(0, .inr (17, 0, 200)), (1, .inl (l1)), (2, .inl (l2))] [] M (xX12_ticksOf_87  l1 l2 M) := by
  unfold xX12_ticksOf_87
  refine K_aload_n (q := 88) 0 dX12_ticksOf_87 rfl rfl rfl ?_
  refine K_getR (q := 91) (ci := 7) (a2 := 201) 0 dX12_ticksOf_88 fRX12_9 rfl rfl (by decide) rfl rfl ?_
  refine K_sipush (q := 94) (v := nI 526) dX12_ticksOf_91 rfl rfl ?_
  refine K_iload_n (q := 95) 1 dX12_ticksOf_94 rfl rfl rfl ?_
  refine K_iadd (q := 96) dX12_ticksOf_95 rfl ?_
  refine K_dup2 (q := 97) dX12_ticksOf_96 rfl ?_
  refine K_iald (q := 98) dX12_ticksOf_97 rfl (fun v1 => ?_)
  refine K_iload_n (q := 99) 2 dX12_ticksOf_98 rfl rfl rfl ?_
  refine K_if_eq (q := 102) (tgt := 106) dX12_ticksOf_99 rfl ?_ rfl ?_
  · refine K_iconst (q := 107) (v := nI 0) dX12_ticksOf_106 rfl rfl ?_
    exact J_sub [0, 1] (tX12_ticksOf_107  l1 ((nI 526) + l1) v1 (nI 0) M) rfl
  · refine K_iconst (q := 103) (v := nI 1) dX12_ticksOf_102 rfl rfl ?_
    refine J_goto (tgt := 107) dX12_ticksOf_103 rfl ?_
    exact J_sub [0, 1] (tX12_ticksOf_107  l1 ((nI 526) + l1) v1 (nI 1) M) rfl
def xX12_ticksOf_74   (l1 : Int32) (s0 : Int32) (M : j_M) : Option (j_M) := (if s0 = (0 : Int32) then obi (xX12_mustWait l1 M) fun v2 M1 => (if v2 = (0 : Int32) then obv (xX12_asksForGood l1 M1) fun M3 => some M3 else xX12_ticksOf_87  l1 s0 M1) else xX12_ticksOf_87  l1 s0 M)
set_option maxRecDepth 20000 in
set_option maxHeartbeats 2000000 in
theorem tX12_ticksOf_74    (l1 : Int32) (s0 : Int32) (M : j_M) : J (ρ := j_M) yX12_ticksOf cX12_ticksOf 3 none 7 167 j_ev 74 [(0, .inr (17, 0, 200)), (1, .inl (l1))] [.inl (s0)] M (xX12_ticksOf_74  l1 s0 M) := by
  unfold xX12_ticksOf_74
  refine K_istore_n (q := 75) (ll' := [(2, .inl (s0)), (0, .inr (17, 0, 200)), (1, .inl (l1))]) dX12_ticksOf_74 rfl (by decide) rfl rfl ?_
  refine K_iload_n (q := 76) 0 dX12_ticksOf_75 rfl rfl rfl ?_
  refine K_if_ne (q := 79) (tgt := 87) dX12_ticksOf_76 rfl ?_ rfl ?_
  · exact J_sub [1, 2, 0] (tX12_ticksOf_87  l1 s0 M) rfl
  · refine K_aload_n (q := 80) 1 dX12_ticksOf_79 rfl rfl rfl ?_
    refine K_iload_n (q := 81) 2 dX12_ticksOf_80 rfl rfl rfl ?_
    refine K_cvi (q := 84) [.inl (l1)] dX12_ticksOf_81 cb_X12_mustWait cvRX12_182 rc_7 (show (17 : Nat) ≠ 0 by decide) rfl (Nat.le_of_ble_eq_true rfl) ⟨by decide, by decide⟩ (Nat.le_of_ble_eq_true rfl) rfl (tX12_mustWait l1 M) rfl (fun v2 M1 => ?_)
    refine K_if_eq (q := 87) (tgt := 150) dX12_ticksOf_84 rfl ?_ rfl ?_
    · refine K_aload_n (q := 151) 1 dX12_ticksOf_150 rfl rfl rfl ?_
      refine K_iload_n (q := 152) 2 dX12_ticksOf_151 rfl rfl rfl ?_
      refine K_cvv (q := 155) [.inl (l1)] dX12_ticksOf_152 cb_X12_asksForGood cvRX12_185 rc_7 (show (17 : Nat) ≠ 0 by decide) rfl (Nat.le_of_ble_eq_true rfl) ⟨by decide, by decide⟩ (Nat.le_of_ble_eq_true rfl) rfl (tX12_asksForGood l1 M1) rfl (fun M3 => ?_)
      exact J_vret dX12_ticksOf_155
    · exact J_sub [1, 2, 0] (tX12_ticksOf_87  l1 s0 M1) rfl
def xX12_ticksOf  (l1 : Int32) (M : j_M) : Option (j_M) := gd ((nI 292) + l1) 7460 (oli (M 201 (ix ((nI 292) + l1))) fun v1 => (if v1 = (-1 : Int32) then some M else gd ((nI 310) + l1) 7460 (oli (M 201 (ix ((nI 310) + l1))) fun v2 => (if v2 = (nI 1) then some M else gd (nI 5) 7460 (oli (M 201 (ix (nI 5))) fun v3 => gd ((nI 532) + l1) 7460 (oli (M 201 (ix ((nI 532) + l1))) fun v4 => gd (nI 4) 7460 (oli (M 201 (ix (nI 4))) fun v5 => (if v5 ≤ (v3 - v4) then gd ((nI 526) + l1) 7460 (oli (M 201 (ix ((nI 526) + l1))) fun v6 => (if (nI 3) ≤ v6 then xX12_ticksOf_74  l1 (nI 0) M else xX12_ticksOf_74  l1 (nI 1) M)) else some M))))))))
set_option maxRecDepth 20000 in
set_option maxHeartbeats 2000000 in
theorem tX12_ticksOf  (l1 : Int32) (M : j_M) : J (ρ := j_M) yX12_ticksOf cX12_ticksOf 3 none 7 167 j_ev 0 [(0, .inr (17, 0, 200)), (1, .inl (l1))] [] M (xX12_ticksOf  l1 M) := by
  unfold xX12_ticksOf
  refine K_aload_n (q := 1) 0 dX12_ticksOf_0 rfl rfl rfl ?_
  refine K_getR (q := 4) (ci := 7) (a2 := 201) 0 dX12_ticksOf_1 fRX12_9 rfl rfl (by decide) rfl rfl ?_
  refine K_sipush (q := 7) (v := nI 292) dX12_ticksOf_4 rfl rfl ?_
  refine K_iload_n (q := 8) 1 dX12_ticksOf_7 rfl rfl rfl ?_
  refine K_iadd (q := 9) dX12_ticksOf_8 rfl ?_
  refine K_iald (q := 10) dX12_ticksOf_9 rfl (fun v1 => ?_)
  refine K_iconst (q := 11) (v := -1) dX12_ticksOf_10 rfl rfl ?_
  refine K_icmp_eq (q := 14) (tgt := 54) dX12_ticksOf_11 rfl ?_ rfl ?_
  · exact J_vret dX12_ticksOf_54
  · refine K_aload_n (q := 15) 0 dX12_ticksOf_14 rfl rfl rfl ?_
    refine K_getR (q := 18) (ci := 7) (a2 := 201) 0 dX12_ticksOf_15 fRX12_9 rfl rfl (by decide) rfl rfl ?_
    refine K_sipush (q := 21) (v := nI 310) dX12_ticksOf_18 rfl rfl ?_
    refine K_iload_n (q := 22) 1 dX12_ticksOf_21 rfl rfl rfl ?_
    refine K_iadd (q := 23) dX12_ticksOf_22 rfl ?_
    refine K_iald (q := 24) dX12_ticksOf_23 rfl (fun v2 => ?_)
    refine K_iconst (q := 25) (v := nI 1) dX12_ticksOf_24 rfl rfl ?_
    refine K_icmp_eq (q := 28) (tgt := 54) dX12_ticksOf_25 rfl ?_ rfl ?_
    · exact J_vret dX12_ticksOf_54
    · refine K_aload_n (q := 29) 0 dX12_ticksOf_28 rfl rfl rfl ?_
      refine K_getR (q := 32) (ci := 7) (a2 := 201) 0 dX12_ticksOf_29 fRX12_9 rfl rfl (by decide) rfl rfl ?_
      refine K_iconst (q := 33) (v := nI 5) dX12_ticksOf_32 rfl rfl ?_
      refine K_iald (q := 34) dX12_ticksOf_33 rfl (fun v3 => ?_)
      refine K_aload_n (q := 35) 0 dX12_ticksOf_34 rfl rfl rfl ?_
      refine K_getR (q := 38) (ci := 7) (a2 := 201) 0 dX12_ticksOf_35 fRX12_9 rfl rfl (by decide) rfl rfl ?_
      refine K_sipush (q := 41) (v := nI 532) dX12_ticksOf_38 rfl rfl ?_
      refine K_iload_n (q := 42) 1 dX12_ticksOf_41 rfl rfl rfl ?_
      refine K_iadd (q := 43) dX12_ticksOf_42 rfl ?_
      refine K_iald (q := 44) dX12_ticksOf_43 rfl (fun v4 => ?_)
      refine K_isub (q := 45) dX12_ticksOf_44 rfl ?_
      refine K_aload_n (q := 46) 0 dX12_ticksOf_45 rfl rfl rfl ?_
      refine K_getR (q := 49) (ci := 7) (a2 := 201) 0 dX12_ticksOf_46 fRX12_9 rfl rfl (by decide) rfl rfl ?_
      refine K_iconst (q := 50) (v := nI 4) dX12_ticksOf_49 rfl rfl ?_
      refine K_iald (q := 51) dX12_ticksOf_50 rfl (fun v5 => ?_)
      refine K_icmp_ge (q := 54) (tgt := 55) dX12_ticksOf_51 rfl ?_ rfl ?_
      · refine K_aload_n (q := 56) 0 dX12_ticksOf_55 rfl rfl rfl ?_
        refine K_getR (q := 59) (ci := 7) (a2 := 201) 0 dX12_ticksOf_56 fRX12_9 rfl rfl (by decide) rfl rfl ?_
        refine K_sipush (q := 62) (v := nI 526) dX12_ticksOf_59 rfl rfl ?_
        refine K_iload_n (q := 63) 1 dX12_ticksOf_62 rfl rfl rfl ?_
        refine K_iadd (q := 64) dX12_ticksOf_63 rfl ?_
        refine K_iald (q := 65) dX12_ticksOf_64 rfl (fun v6 => ?_)
        refine K_iconst (q := 66) (v := nI 3) dX12_ticksOf_65 rfl rfl ?_
        refine K_icmp_ge (q := 69) (tgt := 73) dX12_ticksOf_66 rfl ?_ rfl ?_
        · refine K_iconst (q := 74) (v := nI 0) dX12_ticksOf_73 rfl rfl ?_
          exact J_sub [0, 1] (tX12_ticksOf_74  l1 (nI 0) M) rfl
        · refine K_iconst (q := 70) (v := nI 1) dX12_ticksOf_69 rfl rfl ?_
          refine J_goto (tgt := 74) dX12_ticksOf_70 rfl ?_
          exact J_sub [0, 1] (tX12_ticksOf_74  l1 (nI 1) M) rfl
      · exact J_vret dX12_ticksOf_54
theorem dX12_ticksOnce_0 : decode cX12_ticksOnce 0 = .ok (.aload_n 0, 1) := by decide +kernel
theorem dX12_ticksOnce_1 : decode cX12_ticksOnce 1 = .ok (.getfield 9, 3) := by decide +kernel
theorem dX12_ticksOnce_4 : decode cX12_ticksOnce 4 = .ok (.iconst 5, 1) := by decide +kernel
theorem dX12_ticksOnce_5 : decode cX12_ticksOnce 5 = .ok (.dup2, 1) := by decide +kernel
theorem dX12_ticksOnce_6 : decode cX12_ticksOnce 6 = .ok (.iaload, 1) := by decide +kernel
theorem dX12_ticksOnce_7 : decode cX12_ticksOnce 7 = .ok (.iconst 1, 1) := by decide +kernel
theorem dX12_ticksOnce_8 : decode cX12_ticksOnce 8 = .ok (.iadd, 1) := by decide +kernel
theorem dX12_ticksOnce_9 : decode cX12_ticksOnce 9 = .ok (.iastore, 1) := by decide +kernel
theorem dX12_ticksOnce_10 : decode cX12_ticksOnce 10 = .ok (.iconst 0, 1) := by decide +kernel
theorem dX12_ticksOnce_11 : decode cX12_ticksOnce 11 = .ok (.istore_n 1, 1) := by decide +kernel
theorem dX12_ticksOnce_12 : decode cX12_ticksOnce 12 = .ok (.iload_n 1, 1) := by decide +kernel
theorem dX12_ticksOnce_13 : decode cX12_ticksOnce 13 = .ok (.bipush 48, 2) := by decide +kernel
theorem dX12_ticksOnce_15 : decode cX12_ticksOnce 15 = .ok (.if_icmp .ge 32, 3) := by decide +kernel
theorem dX12_ticksOnce_18 : decode cX12_ticksOnce 18 = .ok (.aload_n 0, 1) := by decide +kernel
theorem dX12_ticksOnce_19 : decode cX12_ticksOnce 19 = .ok (.getfield 9, 3) := by decide +kernel
theorem dX12_ticksOnce_22 : decode cX12_ticksOnce 22 = .ok (.iconst 5, 1) := by decide +kernel
theorem dX12_ticksOnce_23 : decode cX12_ticksOnce 23 = .ok (.iaload, 1) := by decide +kernel
theorem dX12_ticksOnce_24 : decode cX12_ticksOnce 24 = .ok (.bipush 16, 2) := by decide +kernel
theorem dX12_ticksOnce_26 : decode cX12_ticksOnce 26 = .ok (.irem, 1) := by decide +kernel
theorem dX12_ticksOnce_27 : decode cX12_ticksOnce 27 = .ok (.ifCond .ne 20, 3) := by decide +kernel
theorem dX12_ticksOnce_30 : decode cX12_ticksOnce 30 = .ok (.aload_n 0, 1) := by decide +kernel
theorem dX12_ticksOnce_31 : decode cX12_ticksOnce 31 = .ok (.getfield 9, 3) := by decide +kernel
theorem dX12_ticksOnce_34 : decode cX12_ticksOnce 34 = .ok (.sipush 6766, 3) := by decide +kernel
theorem dX12_ticksOnce_37 : decode cX12_ticksOnce 37 = .ok (.iload_n 1, 1) := by decide +kernel
theorem dX12_ticksOnce_38 : decode cX12_ticksOnce 38 = .ok (.iadd, 1) := by decide +kernel
theorem dX12_ticksOnce_39 : decode cX12_ticksOnce 39 = .ok (.iconst 0, 1) := by decide +kernel
theorem dX12_ticksOnce_40 : decode cX12_ticksOnce 40 = .ok (.iastore, 1) := by decide +kernel
theorem dX12_ticksOnce_41 : decode cX12_ticksOnce 41 = .ok (.iinc 1 1, 3) := by decide +kernel
theorem dX12_ticksOnce_44 : decode cX12_ticksOnce 44 = .ok (.goto (-32), 3) := by decide +kernel
theorem dX12_ticksOnce_47 : decode cX12_ticksOnce 47 = .ok (.iconst 0, 1) := by decide +kernel
theorem dX12_ticksOnce_48 : decode cX12_ticksOnce 48 = .ok (.istore_n 1, 1) := by decide +kernel
theorem dX12_ticksOnce_49 : decode cX12_ticksOnce 49 = .ok (.iload_n 1, 1) := by decide +kernel
theorem dX12_ticksOnce_50 : decode cX12_ticksOnce 50 = .ok (.aload_n 0, 1) := by decide +kernel
theorem dX12_ticksOnce_51 : decode cX12_ticksOnce 51 = .ok (.getfield 9, 3) := by decide +kernel
theorem dX12_ticksOnce_54 : decode cX12_ticksOnce 54 = .ok (.iconst 0, 1) := by decide +kernel
theorem dX12_ticksOnce_55 : decode cX12_ticksOnce 55 = .ok (.iaload, 1) := by decide +kernel
theorem dX12_ticksOnce_56 : decode cX12_ticksOnce 56 = .ok (.if_icmp .ge 14, 3) := by decide +kernel
theorem dX12_ticksOnce_59 : decode cX12_ticksOnce 59 = .ok (.aload_n 0, 1) := by decide +kernel
theorem dX12_ticksOnce_60 : decode cX12_ticksOnce 60 = .ok (.iload_n 1, 1) := by decide +kernel
theorem dX12_ticksOnce_61 : decode cX12_ticksOnce 61 = .ok (.invokevirtual 188, 3) := by decide +kernel
theorem dX12_ticksOnce_64 : decode cX12_ticksOnce 64 = .ok (.iinc 1 1, 3) := by decide +kernel
theorem dX12_ticksOnce_67 : decode cX12_ticksOnce 67 = .ok (.goto (-18), 3) := by decide +kernel
theorem dX12_ticksOnce_70 : decode cX12_ticksOnce 70 = .ok (.return_, 1) := by decide +kernel
def xX12_ticksOnce_49   : Nat → Int32 → j_M → Option (j_M)
  | 0, _, _ => none
  | n + 1, l1, M => gd (nI 0) 7460 (oli (M 201 (ix (nI 0))) fun v1 => (if v1 ≤ l1 then some M else obv (xX12_ticksOf l1 M) fun M2 => xX12_ticksOnce_49  n (l1 + (nI 1)) M2))
set_option maxRecDepth 20000 in
set_option maxHeartbeats 2000000 in
theorem tX12_ticksOnce_49    : ∀ (n : Nat) (l1 : Int32) (M : j_M), J (ρ := j_M) yX12_ticksOnce cX12_ticksOnce 2 none 8 189 j_ev 49 [(0, .inr (17, 0, 200)), (1, .inl (l1))] [] M (xX12_ticksOnce_49  n l1 M) := by
  intro n
  induction n with
  | zero => intros; exact J_none
  | succ n ih =>
    intro l1 M
    rw [xX12_ticksOnce_49.eq_2]
    refine K_iload_n (q := 50) 1 dX12_ticksOnce_49 rfl rfl rfl ?_
    refine K_aload_n (q := 51) 0 dX12_ticksOnce_50 rfl rfl rfl ?_
    refine K_getR (q := 54) (ci := 7) (a2 := 201) 0 dX12_ticksOnce_51 fRX12_9 rfl rfl (by decide) rfl rfl ?_
    refine K_iconst (q := 55) (v := nI 0) dX12_ticksOnce_54 rfl rfl ?_
    refine K_iald (q := 56) dX12_ticksOnce_55 rfl (fun v1 => ?_)
    refine K_icmp_ge (q := 59) (tgt := 70) dX12_ticksOnce_56 rfl ?_ rfl ?_
    · exact J_vret dX12_ticksOnce_70
    · refine K_aload_n (q := 60) 0 dX12_ticksOnce_59 rfl rfl rfl ?_
      refine K_iload_n (q := 61) 1 dX12_ticksOnce_60 rfl rfl rfl ?_
      refine K_cvv (q := 64) [.inl (l1)] dX12_ticksOnce_61 cb_X12_ticksOf cvRX12_188 rc_7 (show (17 : Nat) ≠ 0 by decide) rfl (Nat.le_of_ble_eq_true rfl) ⟨by decide, by decide⟩ (Nat.le_of_ble_eq_true rfl) rfl (tX12_ticksOf l1 M) rfl (fun M2 => ?_)
      refine K_iinc (q := 67) (v := l1 + (nI 1)) (ll' := [(1, .inl (l1 + (nI 1))), (0, .inr (17, 0, 200))]) 1 dX12_ticksOnce_64 rfl rfl (by decide) rfl rfl ?_
      refine J_goto (tgt := 49) dX12_ticksOnce_67 rfl ?_
      exact J_sub [1, 0] (ih (l1 + (nI 1)) M2) rfl
def xX12_ticksOnce_47    (M : j_M) : Option (j_M) := xX12_ticksOnce_49 fu (nI 0) M
set_option maxRecDepth 20000 in
set_option maxHeartbeats 2000000 in
theorem tX12_ticksOnce_47     (M : j_M) : J (ρ := j_M) yX12_ticksOnce cX12_ticksOnce 2 none 8 189 j_ev 47 [(0, .inr (17, 0, 200))] [] M (xX12_ticksOnce_47   M) := by
  unfold xX12_ticksOnce_47
  refine K_iconst (q := 48) (v := nI 0) dX12_ticksOnce_47 rfl rfl ?_
  refine K_istore_n (q := 49) (ll' := [(1, .inl ((nI 0))), (0, .inr (17, 0, 200))]) dX12_ticksOnce_48 rfl (by decide) rfl rfl ?_
  exact J_sub [1, 0] (tX12_ticksOnce_49 fu (nI 0) M) rfl
def xX12_ticksOnce_12   : Nat → Int32 → j_M → Option (j_M)
  | 0, _, _ => none
  | n + 1, l1, M => (if (nI 48) ≤ l1 then xX12_ticksOnce_47  M else gd (nI 5) 7460 (oli (M 201 (ix (nI 5))) fun v1 => gn (nI 16) ((if v1 - v1 / (nI 16) * (nI 16) = (0 : Int32) then gd ((nI 6766) + l1) 7460 (oml (mw M 201 (ix ((nI 6766) + l1)) (nI 0)) fun M2 => xX12_ticksOnce_12  n (l1 + (nI 1)) M2) else xX12_ticksOnce_47  M))))
set_option maxRecDepth 20000 in
set_option maxHeartbeats 2000000 in
theorem tX12_ticksOnce_12    : ∀ (n : Nat) (l1 : Int32) (M : j_M), J (ρ := j_M) yX12_ticksOnce cX12_ticksOnce 2 none 8 189 j_ev 12 [(0, .inr (17, 0, 200)), (1, .inl (l1))] [] M (xX12_ticksOnce_12  n l1 M) := by
  intro n
  induction n with
  | zero => intros; exact J_none
  | succ n ih =>
    intro l1 M
    rw [xX12_ticksOnce_12.eq_2]
    refine K_iload_n (q := 13) 1 dX12_ticksOnce_12 rfl rfl rfl ?_
    refine K_bipush (q := 15) (v := nI 48) dX12_ticksOnce_13 rfl rfl ?_
    refine K_icmp_ge (q := 18) (tgt := 47) dX12_ticksOnce_15 rfl ?_ rfl ?_
    · exact J_sub [0] (tX12_ticksOnce_47  M) rfl
    · refine K_aload_n (q := 19) 0 dX12_ticksOnce_18 rfl rfl rfl ?_
      refine K_getR (q := 22) (ci := 7) (a2 := 201) 0 dX12_ticksOnce_19 fRX12_9 rfl rfl (by decide) rfl rfl ?_
      refine K_iconst (q := 23) (v := nI 5) dX12_ticksOnce_22 rfl rfl ?_
      refine K_iald (q := 24) dX12_ticksOnce_23 rfl (fun v1 => ?_)
      refine K_bipush (q := 26) (v := nI 16) dX12_ticksOnce_24 rfl rfl ?_
      refine K_irem (q := 27) dX12_ticksOnce_26 rfl ?_
      refine K_if_ne (q := 30) (tgt := 47) dX12_ticksOnce_27 rfl ?_ rfl ?_
      · exact J_sub [0] (tX12_ticksOnce_47  M) rfl
      · refine K_aload_n (q := 31) 0 dX12_ticksOnce_30 rfl rfl rfl ?_
        refine K_getR (q := 34) (ci := 7) (a2 := 201) 0 dX12_ticksOnce_31 fRX12_9 rfl rfl (by decide) rfl rfl ?_
        refine K_sipush (q := 37) (v := nI 6766) dX12_ticksOnce_34 rfl rfl ?_
        refine K_iload_n (q := 38) 1 dX12_ticksOnce_37 rfl rfl rfl ?_
        refine K_iadd (q := 39) dX12_ticksOnce_38 rfl ?_
        refine K_iconst (q := 40) (v := nI 0) dX12_ticksOnce_39 rfl rfl ?_
        refine K_iast (q := 41) dX12_ticksOnce_40 rfl (fun M2 => ?_)
        refine K_iinc (q := 44) (v := l1 + (nI 1)) (ll' := [(1, .inl (l1 + (nI 1))), (0, .inr (17, 0, 200))]) 1 dX12_ticksOnce_41 rfl rfl (by decide) rfl rfl ?_
        refine J_goto (tgt := 12) dX12_ticksOnce_44 rfl ?_
        exact J_sub [1, 0] (ih (l1 + (nI 1)) M2) rfl
def xX12_ticksOnce   (M : j_M) : Option (j_M) := gd (nI 5) 7460 (oli (M 201 (ix (nI 5))) fun v1 => gd (nI 5) 7460 (oml (mw M 201 (ix (nI 5)) (v1 + (nI 1))) fun M2 => xX12_ticksOnce_12 fu (nI 0) M2))
set_option maxRecDepth 20000 in
set_option maxHeartbeats 2000000 in
theorem tX12_ticksOnce   (M : j_M) : J (ρ := j_M) yX12_ticksOnce cX12_ticksOnce 2 none 8 189 j_ev 0 [(0, .inr (17, 0, 200))] [] M (xX12_ticksOnce   M) := by
  unfold xX12_ticksOnce
  refine K_aload_n (q := 1) 0 dX12_ticksOnce_0 rfl rfl rfl ?_
  refine K_getR (q := 4) (ci := 7) (a2 := 201) 0 dX12_ticksOnce_1 fRX12_9 rfl rfl (by decide) rfl rfl ?_
  refine K_iconst (q := 5) (v := nI 5) dX12_ticksOnce_4 rfl rfl ?_
  refine K_dup2 (q := 6) dX12_ticksOnce_5 rfl ?_
  refine K_iald (q := 7) dX12_ticksOnce_6 rfl (fun v1 => ?_)
  refine K_iconst (q := 8) (v := nI 1) dX12_ticksOnce_7 rfl rfl ?_
  refine K_iadd (q := 9) dX12_ticksOnce_8 rfl ?_
  refine K_iast (q := 10) dX12_ticksOnce_9 rfl (fun M2 => ?_)
  refine K_iconst (q := 11) (v := nI 0) dX12_ticksOnce_10 rfl rfl ?_
  refine K_istore_n (q := 12) (ll' := [(1, .inl ((nI 0))), (0, .inr (17, 0, 200))]) dX12_ticksOnce_11 rfl (by decide) rfl rfl ?_
  exact J_sub [1, 0] (tX12_ticksOnce_12 fu (nI 0) M2) rfl
theorem dX12_calmOnce_0 : decode cX12_calmOnce 0 = .ok (.iconst 0, 1) := by decide +kernel
theorem dX12_calmOnce_1 : decode cX12_calmOnce 1 = .ok (.istore_n 1, 1) := by decide +kernel
theorem dX12_calmOnce_2 : decode cX12_calmOnce 2 = .ok (.iload_n 1, 1) := by decide +kernel
theorem dX12_calmOnce_3 : decode cX12_calmOnce 3 = .ok (.sipush 2000, 3) := by decide +kernel
theorem dX12_calmOnce_6 : decode cX12_calmOnce 6 = .ok (.if_icmp .ge 25, 3) := by decide +kernel
theorem dX12_calmOnce_9 : decode cX12_calmOnce 9 = .ok (.aload_n 0, 1) := by decide +kernel
theorem dX12_calmOnce_10 : decode cX12_calmOnce 10 = .ok (.getfield 9, 3) := by decide +kernel
theorem dX12_calmOnce_13 : decode cX12_calmOnce 13 = .ok (.bipush 7, 2) := by decide +kernel
theorem dX12_calmOnce_15 : decode cX12_calmOnce 15 = .ok (.iaload, 1) := by decide +kernel
theorem dX12_calmOnce_16 : decode cX12_calmOnce 16 = .ok (.ifCond .le 15, 3) := by decide +kernel
theorem dX12_calmOnce_19 : decode cX12_calmOnce 19 = .ok (.aload_n 0, 1) := by decide +kernel
theorem dX12_calmOnce_20 : decode cX12_calmOnce 20 = .ok (.iconst 0, 1) := by decide +kernel
theorem dX12_calmOnce_21 : decode cX12_calmOnce 21 = .ok (.invokevirtual 178, 3) := by decide +kernel
theorem dX12_calmOnce_24 : decode cX12_calmOnce 24 = .ok (.pop, 1) := by decide +kernel
theorem dX12_calmOnce_25 : decode cX12_calmOnce 25 = .ok (.iinc 1 1, 3) := by decide +kernel
theorem dX12_calmOnce_28 : decode cX12_calmOnce 28 = .ok (.goto (-26), 3) := by decide +kernel
theorem dX12_calmOnce_31 : decode cX12_calmOnce 31 = .ok (.aload_n 0, 1) := by decide +kernel
theorem dX12_calmOnce_32 : decode cX12_calmOnce 32 = .ok (.invokevirtual 191, 3) := by decide +kernel
theorem dX12_calmOnce_35 : decode cX12_calmOnce 35 = .ok (.iload_n 1, 1) := by decide +kernel
theorem dX12_calmOnce_36 : decode cX12_calmOnce 36 = .ok (.ireturn, 1) := by decide +kernel
def xX12_calmOnce_31   (l1 : Int32) (M : j_M) : Option (Int32 × j_M) := obv (xX12_ticksOnce M) fun M1 => some (l1, M1)
set_option maxRecDepth 20000 in
set_option maxHeartbeats 2000000 in
theorem tX12_calmOnce_31    (l1 : Int32) (M : j_M) : J (ρ := Int32 × j_M) yX12_calmOnce cX12_calmOnce 2 (some .int) 9 210 j_ei 31 [(0, .inr (17, 0, 200)), (1, .inl (l1))] [] M (xX12_calmOnce_31  l1 M) := by
  unfold xX12_calmOnce_31
  refine K_aload_n (q := 32) 0 dX12_calmOnce_31 rfl rfl rfl ?_
  refine K_cvv (q := 35) [] dX12_calmOnce_32 cb_X12_ticksOnce cvRX12_191 rc_7 (show (17 : Nat) ≠ 0 by decide) rfl (Nat.le_of_ble_eq_true rfl) ⟨by decide, by decide⟩ (Nat.le_of_ble_eq_true rfl) rfl (tX12_ticksOnce M) rfl (fun M1 => ?_)
  refine K_iload_n (q := 36) 1 dX12_calmOnce_35 rfl rfl rfl ?_
  exact J_iret dX12_calmOnce_36
def xX12_calmOnce_2   : Nat → Int32 → j_M → Option (Int32 × j_M)
  | 0, _, _ => none
  | n + 1, l1, M => (if (nI 2000) ≤ l1 then xX12_calmOnce_31  l1 M else gd (nI 7) 7460 (oli (M 201 (ix (nI 7))) fun v1 => (if v1 ≤ (0 : Int32) then xX12_calmOnce_31  l1 M else obi (xX12_delivers (nI 0) M) fun v3 M2 => xX12_calmOnce_2  n (l1 + (nI 1)) M2)))
set_option maxRecDepth 20000 in
set_option maxHeartbeats 2000000 in
theorem tX12_calmOnce_2    : ∀ (n : Nat) (l1 : Int32) (M : j_M), J (ρ := Int32 × j_M) yX12_calmOnce cX12_calmOnce 2 (some .int) 9 210 j_ei 2 [(0, .inr (17, 0, 200)), (1, .inl (l1))] [] M (xX12_calmOnce_2  n l1 M) := by
  intro n
  induction n with
  | zero => intros; exact J_none
  | succ n ih =>
    intro l1 M
    rw [xX12_calmOnce_2.eq_2]
    refine K_iload_n (q := 3) 1 dX12_calmOnce_2 rfl rfl rfl ?_
    refine K_sipush (q := 6) (v := nI 2000) dX12_calmOnce_3 rfl rfl ?_
    refine K_icmp_ge (q := 9) (tgt := 31) dX12_calmOnce_6 rfl ?_ rfl ?_
    · exact J_sub [0, 1] (tX12_calmOnce_31  l1 M) rfl
    · refine K_aload_n (q := 10) 0 dX12_calmOnce_9 rfl rfl rfl ?_
      refine K_getR (q := 13) (ci := 7) (a2 := 201) 0 dX12_calmOnce_10 fRX12_9 rfl rfl (by decide) rfl rfl ?_
      refine K_bipush (q := 15) (v := nI 7) dX12_calmOnce_13 rfl rfl ?_
      refine K_iald (q := 16) dX12_calmOnce_15 rfl (fun v1 => ?_)
      refine K_if_le (q := 19) (tgt := 31) dX12_calmOnce_16 rfl ?_ rfl ?_
      · exact J_sub [0, 1] (tX12_calmOnce_31  l1 M) rfl
      · refine K_aload_n (q := 20) 0 dX12_calmOnce_19 rfl rfl rfl ?_
        refine K_iconst (q := 21) (v := nI 0) dX12_calmOnce_20 rfl rfl ?_
        refine K_cvi (q := 24) [.inl ((nI 0))] dX12_calmOnce_21 cb_X12_delivers cvRX12_178 rc_7 (show (17 : Nat) ≠ 0 by decide) rfl (Nat.le_of_ble_eq_true rfl) ⟨by decide, by decide⟩ (Nat.le_of_ble_eq_true rfl) rfl (tX12_delivers (nI 0) M) rfl (fun v3 M2 => ?_)
        refine K_pop (q := 25) dX12_calmOnce_24 rfl ?_
        refine K_iinc (q := 28) (v := l1 + (nI 1)) (ll' := [(1, .inl (l1 + (nI 1))), (0, .inr (17, 0, 200))]) 1 dX12_calmOnce_25 rfl rfl (by decide) rfl rfl ?_
        refine J_goto (tgt := 2) dX12_calmOnce_28 rfl ?_
        exact J_sub [1, 0] (ih (l1 + (nI 1)) M2) rfl
def xX12_calmOnce   (M : j_M) : Option (Int32 × j_M) := xX12_calmOnce_2 fu (nI 0) M
set_option maxRecDepth 20000 in
set_option maxHeartbeats 2000000 in
theorem tX12_calmOnce   (M : j_M) : J (ρ := Int32 × j_M) yX12_calmOnce cX12_calmOnce 2 (some .int) 9 210 j_ei 0 [(0, .inr (17, 0, 200))] [] M (xX12_calmOnce   M) := by
  unfold xX12_calmOnce
  refine K_iconst (q := 1) (v := nI 0) dX12_calmOnce_0 rfl rfl ?_
  refine K_istore_n (q := 2) (ll' := [(1, .inl ((nI 0))), (0, .inr (17, 0, 200))]) dX12_calmOnce_1 rfl (by decide) rfl rfl ?_
  exact J_sub [1, 0] (tX12_calmOnce_2 fu (nI 0) M) rfl
theorem dX12_calm_0 : decode cX12_calm 0 = .ok (.iload_n 1, 1) := by decide +kernel
theorem dX12_calm_1 : decode cX12_calm 1 = .ok (.iconst 1, 1) := by decide +kernel
theorem dX12_calm_2 : decode cX12_calm 2 = .ok (.bipush 60, 2) := by decide +kernel
theorem dX12_calm_4 : decode cX12_calm 4 = .ok (.invokestatic 65, 3) := by decide +kernel
theorem dX12_calm_7 : decode cX12_calm 7 = .ok (.ifCond .eq 17, 3) := by decide +kernel
theorem dX12_calm_10 : decode cX12_calm 10 = .ok (.aload_n 0, 1) := by decide +kernel
theorem dX12_calm_11 : decode cX12_calm 11 = .ok (.getfield 9, 3) := by decide +kernel
theorem dX12_calm_14 : decode cX12_calm 14 = .ok (.iconst 5, 1) := by decide +kernel
theorem dX12_calm_15 : decode cX12_calm 15 = .ok (.iaload, 1) := by decide +kernel
theorem dX12_calm_16 : decode cX12_calm 16 = .ok (.iload_n 1, 1) := by decide +kernel
theorem dX12_calm_17 : decode cX12_calm 17 = .ok (.iadd, 1) := by decide +kernel
theorem dX12_calm_18 : decode cX12_calm 18 = .ok (.sipush 9999, 3) := by decide +kernel
theorem dX12_calm_21 : decode cX12_calm 21 = .ok (.if_icmp .le 5, 3) := by decide +kernel
theorem dX12_calm_24 : decode cX12_calm 24 = .ok (.iconst (-1), 1) := by decide +kernel
theorem dX12_calm_25 : decode cX12_calm 25 = .ok (.ireturn, 1) := by decide +kernel
theorem dX12_calm_26 : decode cX12_calm 26 = .ok (.iconst 0, 1) := by decide +kernel
theorem dX12_calm_27 : decode cX12_calm 27 = .ok (.istore_n 2, 1) := by decide +kernel
theorem dX12_calm_28 : decode cX12_calm 28 = .ok (.iconst 0, 1) := by decide +kernel
theorem dX12_calm_29 : decode cX12_calm 29 = .ok (.istore_n 3, 1) := by decide +kernel
theorem dX12_calm_30 : decode cX12_calm 30 = .ok (.iload_n 3, 1) := by decide +kernel
theorem dX12_calm_31 : decode cX12_calm 31 = .ok (.iload_n 1, 1) := by decide +kernel
theorem dX12_calm_32 : decode cX12_calm 32 = .ok (.if_icmp .ge 16, 3) := by decide +kernel
theorem dX12_calm_35 : decode cX12_calm 35 = .ok (.iload_n 2, 1) := by decide +kernel
theorem dX12_calm_36 : decode cX12_calm 36 = .ok (.aload_n 0, 1) := by decide +kernel
theorem dX12_calm_37 : decode cX12_calm 37 = .ok (.invokevirtual 194, 3) := by decide +kernel
theorem dX12_calm_40 : decode cX12_calm 40 = .ok (.iadd, 1) := by decide +kernel
theorem dX12_calm_41 : decode cX12_calm 41 = .ok (.istore_n 2, 1) := by decide +kernel
theorem dX12_calm_42 : decode cX12_calm 42 = .ok (.iinc 3 1, 3) := by decide +kernel
theorem dX12_calm_45 : decode cX12_calm 45 = .ok (.goto (-15), 3) := by decide +kernel
theorem dX12_calm_48 : decode cX12_calm 48 = .ok (.iload_n 2, 1) := by decide +kernel
theorem dX12_calm_49 : decode cX12_calm 49 = .ok (.ireturn, 1) := by decide +kernel
def xX12_calm_30   : Nat → Int32 → Int32 → Int32 → j_M → Option (Int32 × j_M)
  | 0, _, _, _, _ => none
  | n + 1, l1, l2, l3, M => (if l1 ≤ l3 then some (l2, M) else obi (xX12_calmOnce M) fun v2 M1 => xX12_calm_30  n l1 (l2 + v2) (l3 + (nI 1)) M1)
set_option maxRecDepth 20000 in
set_option maxHeartbeats 2000000 in
theorem tX12_calm_30    : ∀ (n : Nat) (l1 : Int32) (l2 : Int32) (l3 : Int32) (M : j_M), J (ρ := Int32 × j_M) yX12_calm cX12_calm 4 (some .int) 10 231 j_ei 30 [(0, .inr (17, 0, 200)), (1, .inl (l1)), (2, .inl (l2)), (3, .inl (l3))] [] M (xX12_calm_30  n l1 l2 l3 M) := by
  intro n
  induction n with
  | zero => intros; exact J_none
  | succ n ih =>
    intro l1 l2 l3 M
    rw [xX12_calm_30.eq_2]
    refine K_iload_n (q := 31) 3 dX12_calm_30 rfl rfl rfl ?_
    refine K_iload_n (q := 32) 1 dX12_calm_31 rfl rfl rfl ?_
    refine K_icmp_ge (q := 35) (tgt := 48) dX12_calm_32 rfl ?_ rfl ?_
    · refine K_iload_n (q := 49) 2 dX12_calm_48 rfl rfl rfl ?_
      exact J_iret dX12_calm_49
    · refine K_iload_n (q := 36) 2 dX12_calm_35 rfl rfl rfl ?_
      refine K_aload_n (q := 37) 0 dX12_calm_36 rfl rfl rfl ?_
      refine K_cvi (q := 40) [] dX12_calm_37 cb_X12_calmOnce cvRX12_194 rc_7 (show (17 : Nat) ≠ 0 by decide) rfl (Nat.le_of_ble_eq_true rfl) ⟨by decide, by decide⟩ (Nat.le_of_ble_eq_true rfl) rfl (tX12_calmOnce M) rfl (fun v2 M1 => ?_)
      refine K_iadd (q := 41) dX12_calm_40 rfl ?_
      refine K_istore_n (q := 42) (ll' := [(2, .inl (l2 + v2)), (0, .inr (17, 0, 200)), (1, .inl (l1)), (3, .inl (l3))]) dX12_calm_41 rfl (by decide) rfl rfl ?_
      refine K_iinc (q := 45) (v := l3 + (nI 1)) (ll' := [(3, .inl (l3 + (nI 1))), (2, .inl (l2 + v2)), (0, .inr (17, 0, 200)), (1, .inl (l1))]) 3 dX12_calm_42 rfl rfl (by decide) rfl rfl ?_
      refine J_goto (tgt := 30) dX12_calm_45 rfl ?_
      exact J_sub [2, 3, 1, 0] (ih l1 (l2 + v2) (l3 + (nI 1)) M1) rfl
def xX12_calm  (l1 : Int32) (M : j_M) : Option (Int32 × j_M) := obi (xX12_isIn l1 (nI 1) (nI 60) M) fun v2 M1 => (if v2 = (0 : Int32) then some ((-1 : Int32), M1) else gd (nI 5) 7460 (oli (M1 201 (ix (nI 5))) fun v3 => (if (v3 + l1) ≤ (nI 9999) then xX12_calm_30 fu l1 (nI 0) (nI 0) M1 else some ((-1 : Int32), M1))))
set_option maxRecDepth 20000 in
set_option maxHeartbeats 2000000 in
theorem tX12_calm  (l1 : Int32) (M : j_M) : J (ρ := Int32 × j_M) yX12_calm cX12_calm 4 (some .int) 10 231 j_ei 0 [(0, .inr (17, 0, 200)), (1, .inl (l1))] [] M (xX12_calm  l1 M) := by
  unfold xX12_calm
  refine K_iload_n (q := 1) 1 dX12_calm_0 rfl rfl rfl ?_
  refine K_iconst (q := 2) (v := nI 1) dX12_calm_1 rfl rfl ?_
  refine K_bipush (q := 4) (v := nI 60) dX12_calm_2 rfl rfl ?_
  refine K_csi (q := 7) [.inl (l1), .inl ((nI 1)), .inl ((nI 60))] dX12_calm_4 cb_X12_isIn cvRX12_65 rfl (Nat.le_of_ble_eq_true rfl) ⟨by decide, by decide⟩ (Nat.le_of_ble_eq_true rfl) rfl (tX12_isIn l1 (nI 1) (nI 60) M) rfl (fun v2 M1 => ?_)
  refine K_if_eq (q := 10) (tgt := 24) dX12_calm_7 rfl ?_ rfl ?_
  · refine K_iconst (q := 25) (v := -1) dX12_calm_24 rfl rfl ?_
    exact J_iret dX12_calm_25
  · refine K_aload_n (q := 11) 0 dX12_calm_10 rfl rfl rfl ?_
    refine K_getR (q := 14) (ci := 7) (a2 := 201) 0 dX12_calm_11 fRX12_9 rfl rfl (by decide) rfl rfl ?_
    refine K_iconst (q := 15) (v := nI 5) dX12_calm_14 rfl rfl ?_
    refine K_iald (q := 16) dX12_calm_15 rfl (fun v3 => ?_)
    refine K_iload_n (q := 17) 1 dX12_calm_16 rfl rfl rfl ?_
    refine K_iadd (q := 18) dX12_calm_17 rfl ?_
    refine K_sipush (q := 21) (v := nI 9999) dX12_calm_18 rfl rfl ?_
    refine K_icmp_le (q := 24) (tgt := 26) dX12_calm_21 rfl ?_ rfl ?_
    · refine K_iconst (q := 27) (v := nI 0) dX12_calm_26 rfl rfl ?_
      refine K_istore_n (q := 28) (ll' := [(2, .inl ((nI 0))), (0, .inr (17, 0, 200)), (1, .inl (l1))]) dX12_calm_27 rfl (by decide) rfl rfl ?_
      refine K_iconst (q := 29) (v := nI 0) dX12_calm_28 rfl rfl ?_
      refine K_istore_n (q := 30) (ll' := [(3, .inl ((nI 0))), (2, .inl ((nI 0))), (0, .inr (17, 0, 200)), (1, .inl (l1))]) dX12_calm_29 rfl (by decide) rfl rfl ?_
      exact J_sub [2, 3, 1, 0] (tX12_calm_30 fu l1 (nI 0) (nI 0) M1) rfl
    · refine K_iconst (q := 25) (v := -1) dX12_calm_24 rfl rfl ?_
      exact J_iret dX12_calm_25
theorem dX12_deliver_0 : decode cX12_deliver 0 = .ok (.iload_n 1, 1) := by decide +kernel
theorem dX12_deliver_1 : decode cX12_deliver 1 = .ok (.iconst 0, 1) := by decide +kernel
theorem dX12_deliver_2 : decode cX12_deliver 2 = .ok (.aload_n 0, 1) := by decide +kernel
theorem dX12_deliver_3 : decode cX12_deliver 3 = .ok (.getfield 9, 3) := by decide +kernel
theorem dX12_deliver_6 : decode cX12_deliver 6 = .ok (.bipush 7, 2) := by decide +kernel
theorem dX12_deliver_8 : decode cX12_deliver 8 = .ok (.iaload, 1) := by decide +kernel
theorem dX12_deliver_9 : decode cX12_deliver 9 = .ok (.iconst 1, 1) := by decide +kernel
theorem dX12_deliver_10 : decode cX12_deliver 10 = .ok (.isub, 1) := by decide +kernel
theorem dX12_deliver_11 : decode cX12_deliver 11 = .ok (.invokestatic 65, 3) := by decide +kernel
theorem dX12_deliver_14 : decode cX12_deliver 14 = .ok (.ifCond .eq 11, 3) := by decide +kernel
theorem dX12_deliver_17 : decode cX12_deliver 17 = .ok (.aload_n 0, 1) := by decide +kernel
theorem dX12_deliver_18 : decode cX12_deliver 18 = .ok (.iload_n 1, 1) := by decide +kernel
theorem dX12_deliver_19 : decode cX12_deliver 19 = .ok (.invokevirtual 178, 3) := by decide +kernel
theorem dX12_deliver_22 : decode cX12_deliver 22 = .ok (.goto 4, 3) := by decide +kernel
theorem dX12_deliver_25 : decode cX12_deliver 25 = .ok (.iconst (-1), 1) := by decide +kernel
theorem dX12_deliver_26 : decode cX12_deliver 26 = .ok (.ireturn, 1) := by decide +kernel
def xX12_deliver  (l1 : Int32) (M : j_M) : Option (Int32 × j_M) := gd (nI 7) 7460 (oli (M 201 (ix (nI 7))) fun v1 => obi (xX12_isIn l1 (nI 0) (v1 - (nI 1)) M) fun v3 M2 => (if v3 = (0 : Int32) then some ((-1 : Int32), M2) else obi (xX12_delivers l1 M2) fun v5 M4 => some (v5, M4)))
set_option maxRecDepth 20000 in
set_option maxHeartbeats 2000000 in
theorem tX12_deliver  (l1 : Int32) (M : j_M) : J (ρ := Int32 × j_M) yX12_deliver cX12_deliver 2 (some .int) 8 189 j_ei 0 [(0, .inr (17, 0, 200)), (1, .inl (l1))] [] M (xX12_deliver  l1 M) := by
  unfold xX12_deliver
  refine K_iload_n (q := 1) 1 dX12_deliver_0 rfl rfl rfl ?_
  refine K_iconst (q := 2) (v := nI 0) dX12_deliver_1 rfl rfl ?_
  refine K_aload_n (q := 3) 0 dX12_deliver_2 rfl rfl rfl ?_
  refine K_getR (q := 6) (ci := 7) (a2 := 201) 0 dX12_deliver_3 fRX12_9 rfl rfl (by decide) rfl rfl ?_
  refine K_bipush (q := 8) (v := nI 7) dX12_deliver_6 rfl rfl ?_
  refine K_iald (q := 9) dX12_deliver_8 rfl (fun v1 => ?_)
  refine K_iconst (q := 10) (v := nI 1) dX12_deliver_9 rfl rfl ?_
  refine K_isub (q := 11) dX12_deliver_10 rfl ?_
  refine K_csi (q := 14) [.inl (l1), .inl ((nI 0)), .inl (v1 - (nI 1))] dX12_deliver_11 cb_X12_isIn cvRX12_65 rfl (Nat.le_of_ble_eq_true rfl) ⟨by decide, by decide⟩ (Nat.le_of_ble_eq_true rfl) rfl (tX12_isIn l1 (nI 0) (v1 - (nI 1)) M) rfl (fun v3 M2 => ?_)
  refine K_if_eq (q := 17) (tgt := 25) dX12_deliver_14 rfl ?_ rfl ?_
  · refine K_iconst (q := 26) (v := -1) dX12_deliver_25 rfl rfl ?_
    exact J_iret dX12_deliver_26
  · refine K_aload_n (q := 18) 0 dX12_deliver_17 rfl rfl rfl ?_
    refine K_iload_n (q := 19) 1 dX12_deliver_18 rfl rfl rfl ?_
    refine K_cvi (q := 22) [.inl (l1)] dX12_deliver_19 cb_X12_delivers cvRX12_178 rc_7 (show (17 : Nat) ≠ 0 by decide) rfl (Nat.le_of_ble_eq_true rfl) ⟨by decide, by decide⟩ (Nat.le_of_ble_eq_true rfl) rfl (tX12_delivers l1 M2) rfl (fun v5 M4 => ?_)
    refine J_goto (tgt := 26) dX12_deliver_22 rfl ?_
    exact J_iret dX12_deliver_26
theorem dX12_end_0 : decode cX12_end 0 = .ok (.iload_n 1, 1) := by decide +kernel
theorem dX12_end_1 : decode cX12_end 1 = .ok (.iconst 0, 1) := by decide +kernel
theorem dX12_end_2 : decode cX12_end 2 = .ok (.aload_n 0, 1) := by decide +kernel
theorem dX12_end_3 : decode cX12_end 3 = .ok (.getfield 197, 3) := by decide +kernel
theorem dX12_end_6 : decode cX12_end 6 = .ok (.invokestatic 65, 3) := by decide +kernel
theorem dX12_end_9 : decode cX12_end 9 = .ok (.ifCond .ne 5, 3) := by decide +kernel
theorem dX12_end_12 : decode cX12_end 12 = .ok (.iconst 0, 1) := by decide +kernel
theorem dX12_end_13 : decode cX12_end 13 = .ok (.ireturn, 1) := by decide +kernel
theorem dX12_end_14 : decode cX12_end 14 = .ok (.aload_n 0, 1) := by decide +kernel
theorem dX12_end_15 : decode cX12_end 15 = .ok (.iload_n 1, 1) := by decide +kernel
theorem dX12_end_16 : decode cX12_end 16 = .ok (.putfield 197, 3) := by decide +kernel
theorem dX12_end_19 : decode cX12_end 19 = .ok (.iconst 1, 1) := by decide +kernel
theorem dX12_end_20 : decode cX12_end 20 = .ok (.ireturn, 1) := by decide +kernel
def xX12_end  (l1 : Int32) (M : j_M) : Option (Int32 × j_M) := oli (M 200 11) fun v1 => obi (xX12_isIn l1 (nI 0) v1 M) fun v3 M2 => (if v3 = (0 : Int32) then some ((nI 0), M2) else oml (mw M2 200 11 l1) fun M4 => some ((nI 1), M4))
set_option maxRecDepth 20000 in
set_option maxHeartbeats 2000000 in
theorem tX12_end  (l1 : Int32) (M : j_M) : J (ρ := Int32 × j_M) yX12_end cX12_end 2 (some .boolean) 1 22 j_ei 0 [(0, .inr (17, 0, 200)), (1, .inl (l1))] [] M (xX12_end  l1 M) := by
  unfold xX12_end
  refine K_iload_n (q := 1) 1 dX12_end_0 rfl rfl rfl ?_
  refine K_iconst (q := 2) (v := nI 0) dX12_end_1 rfl rfl ?_
  refine K_aload_n (q := 3) 0 dX12_end_2 rfl rfl rfl ?_
  refine K_getI (q := 6) (ci := 7) 11 dX12_end_3 fRX12_197 rfl rfl rfl (fun v1 => ?_)
  refine K_csi (q := 9) [.inl (l1), .inl ((nI 0)), .inl (v1)] dX12_end_6 cb_X12_isIn cvRX12_65 rfl (Nat.le_of_ble_eq_true rfl) ⟨by decide, by decide⟩ (Nat.le_of_ble_eq_true rfl) rfl (tX12_isIn l1 (nI 0) v1 M) rfl (fun v3 M2 => ?_)
  refine K_if_ne (q := 12) (tgt := 14) dX12_end_9 rfl ?_ rfl ?_
  · refine K_aload_n (q := 15) 0 dX12_end_14 rfl rfl rfl ?_
    refine K_iload_n (q := 16) 1 dX12_end_15 rfl rfl rfl ?_
    refine K_putI (q := 19) (ci := 7) 11 dX12_end_16 fRX12_197 fp_7_11 rfl rfl (by decide) rfl (fun M4 => ?_)
    refine K_iconst (q := 20) (v := nI 1) dX12_end_19 rfl rfl ?_
    exact J_zret dX12_end_20 (by decide)
  · refine K_iconst (q := 13) (v := nI 0) dX12_end_12 rfl rfl ?_
    exact J_zret dX12_end_13 (by decide)
theorem dX12_tapes_0 : decode cX12_tapes 0 = .ok (.bipush 24, 2) := by decide +kernel
theorem dX12_tapes_2 : decode cX12_tapes 2 = .ok (.istore_n 2, 1) := by decide +kernel
theorem dX12_tapes_3 : decode cX12_tapes 3 = .ok (.iload_n 2, 1) := by decide +kernel
theorem dX12_tapes_4 : decode cX12_tapes 4 = .ok (.ifCond .lt 32, 3) := by decide +kernel
theorem dX12_tapes_7 : decode cX12_tapes 7 = .ok (.aload_n 0, 1) := by decide +kernel
theorem dX12_tapes_8 : decode cX12_tapes 8 = .ok (.getfield 22, 3) := by decide +kernel
theorem dX12_tapes_11 : decode cX12_tapes 11 = .ok (.aload_n 0, 1) := by decide +kernel
theorem dX12_tapes_12 : decode cX12_tapes 12 = .ok (.getfield 197, 3) := by decide +kernel
theorem dX12_tapes_15 : decode cX12_tapes 15 = .ok (.iload_n 1, 1) := by decide +kernel
theorem dX12_tapes_16 : decode cX12_tapes 16 = .ok (.iload_n 2, 1) := by decide +kernel
theorem dX12_tapes_17 : decode cX12_tapes 17 = .ok (.iushr, 1) := by decide +kernel
theorem dX12_tapes_18 : decode cX12_tapes 18 = .ok (.i2b, 1) := by decide +kernel
theorem dX12_tapes_19 : decode cX12_tapes 19 = .ok (.bastore, 1) := by decide +kernel
theorem dX12_tapes_20 : decode cX12_tapes 20 = .ok (.aload_n 0, 1) := by decide +kernel
theorem dX12_tapes_21 : decode cX12_tapes 21 = .ok (.dup, 1) := by decide +kernel
theorem dX12_tapes_22 : decode cX12_tapes 22 = .ok (.getfield 197, 3) := by decide +kernel
theorem dX12_tapes_25 : decode cX12_tapes 25 = .ok (.iconst 1, 1) := by decide +kernel
theorem dX12_tapes_26 : decode cX12_tapes 26 = .ok (.iadd, 1) := by decide +kernel
theorem dX12_tapes_27 : decode cX12_tapes 27 = .ok (.putfield 197, 3) := by decide +kernel
theorem dX12_tapes_30 : decode cX12_tapes 30 = .ok (.iinc 2 (-8), 3) := by decide +kernel
theorem dX12_tapes_33 : decode cX12_tapes 33 = .ok (.goto (-30), 3) := by decide +kernel
theorem dX12_tapes_36 : decode cX12_tapes 36 = .ok (.return_, 1) := by decide +kernel
def xX12_tapes_3   : Nat → Int32 → Int32 → j_M → Option (j_M)
  | 0, _, _, _ => none
  | n + 1, l1, l2, M => (if l2 < (0 : Int32) then some M else oli (M 200 11) fun v1 => gd v1 400 (oml (mw M 205 (ix v1) ((us l1 l2).toInt8.toInt32).toInt8.toInt32) fun M2 => oli (M2 200 11) fun v3 => oml (mw M2 200 11 (v3 + (nI 1))) fun M4 => xX12_tapes_3  n l1 (l2 + (-8 : Int32)) M4))
set_option maxRecDepth 20000 in
set_option maxHeartbeats 2000000 in
theorem tX12_tapes_3    : ∀ (n : Nat) (l1 : Int32) (l2 : Int32) (M : j_M), J (ρ := j_M) yX12_tapes cX12_tapes 3 none 0 0 j_ev 3 [(0, .inr (17, 0, 200)), (1, .inl (l1)), (2, .inl (l2))] [] M (xX12_tapes_3  n l1 l2 M) := by
  intro n
  induction n with
  | zero => intros; exact J_none
  | succ n ih =>
    intro l1 l2 M
    rw [xX12_tapes_3.eq_2]
    refine K_iload_n (q := 4) 2 dX12_tapes_3 rfl rfl rfl ?_
    refine K_if_lt (q := 7) (tgt := 36) dX12_tapes_4 rfl ?_ rfl ?_
    · exact J_vret dX12_tapes_36
    · refine K_aload_n (q := 8) 0 dX12_tapes_7 rfl rfl rfl ?_
      refine K_getR (q := 11) (ci := 7) (a2 := 205) 5 dX12_tapes_8 fRX12_22 rfl rfl (by decide) rfl rfl ?_
      refine K_aload_n (q := 12) 0 dX12_tapes_11 rfl rfl rfl ?_
      refine K_getI (q := 15) (ci := 7) 11 dX12_tapes_12 fRX12_197 rfl rfl rfl (fun v1 => ?_)
      refine K_iload_n (q := 16) 1 dX12_tapes_15 rfl rfl rfl ?_
      refine K_iload_n (q := 17) 2 dX12_tapes_16 rfl rfl rfl ?_
      refine K_iushr (q := 18) dX12_tapes_17 rfl ?_
      refine K_i2b (q := 19) dX12_tapes_18 rfl ?_
      refine K_bast (q := 20) dX12_tapes_19 rfl (fun M2 => ?_)
      refine K_aload_n (q := 21) 0 dX12_tapes_20 rfl rfl rfl ?_
      refine K_dup (q := 22) dX12_tapes_21 rfl ?_
      refine K_getI (q := 25) (ci := 7) 11 dX12_tapes_22 fRX12_197 rfl rfl rfl (fun v3 => ?_)
      refine K_iconst (q := 26) (v := nI 1) dX12_tapes_25 rfl rfl ?_
      refine K_iadd (q := 27) dX12_tapes_26 rfl ?_
      refine K_putI (q := 30) (ci := 7) 11 dX12_tapes_27 fRX12_197 fp_7_11 rfl rfl (by decide) rfl (fun M4 => ?_)
      refine K_iinc (q := 33) (v := l2 + (-8 : Int32)) (ll' := [(2, .inl (l2 + (-8 : Int32))), (0, .inr (17, 0, 200)), (1, .inl (l1))]) 2 dX12_tapes_30 rfl rfl (by decide) rfl rfl ?_
      refine J_goto (tgt := 3) dX12_tapes_33 rfl ?_
      exact J_sub [1, 2, 0] (ih l1 (l2 + (-8 : Int32)) M4) rfl
def xX12_tapes  (l1 : Int32) (M : j_M) : Option (j_M) := xX12_tapes_3 fu l1 (nI 24) M
set_option maxRecDepth 20000 in
set_option maxHeartbeats 2000000 in
theorem tX12_tapes  (l1 : Int32) (M : j_M) : J (ρ := j_M) yX12_tapes cX12_tapes 3 none 0 0 j_ev 0 [(0, .inr (17, 0, 200)), (1, .inl (l1))] [] M (xX12_tapes  l1 M) := by
  unfold xX12_tapes
  refine K_bipush (q := 2) (v := nI 24) dX12_tapes_0 rfl rfl ?_
  refine K_istore_n (q := 3) (ll' := [(2, .inl ((nI 24))), (0, .inr (17, 0, 200)), (1, .inl (l1))]) dX12_tapes_2 rfl (by decide) rfl rfl ?_
  exact J_sub [1, 2, 0] (tX12_tapes_3 fu l1 (nI 24) M) rfl
theorem dX12_feed_0 : decode cX12_feed 0 = .ok (.aload_n 0, 1) := by decide +kernel
theorem dX12_feed_1 : decode cX12_feed 1 = .ok (.getfield 197, 3) := by decide +kernel
theorem dX12_feed_4 : decode cX12_feed 4 = .ok (.bipush 20, 2) := by decide +kernel
theorem dX12_feed_6 : decode cX12_feed 6 = .ok (.iadd, 1) := by decide +kernel
theorem dX12_feed_7 : decode cX12_feed 7 = .ok (.sipush 400, 3) := by decide +kernel
theorem dX12_feed_10 : decode cX12_feed 10 = .ok (.if_icmp .le 5, 3) := by decide +kernel
theorem dX12_feed_13 : decode cX12_feed 13 = .ok (.iconst (-1), 1) := by decide +kernel
theorem dX12_feed_14 : decode cX12_feed 14 = .ok (.ireturn, 1) := by decide +kernel
theorem dX12_feed_15 : decode cX12_feed 15 = .ok (.aload_n 0, 1) := by decide +kernel
theorem dX12_feed_16 : decode cX12_feed 16 = .ok (.iload_n 1, 1) := by decide +kernel
theorem dX12_feed_17 : decode cX12_feed 17 = .ok (.invokevirtual 200, 3) := by decide +kernel
theorem dX12_feed_20 : decode cX12_feed 20 = .ok (.aload_n 0, 1) := by decide +kernel
theorem dX12_feed_21 : decode cX12_feed 21 = .ok (.iload_n 2, 1) := by decide +kernel
theorem dX12_feed_22 : decode cX12_feed 22 = .ok (.invokevirtual 200, 3) := by decide +kernel
theorem dX12_feed_25 : decode cX12_feed 25 = .ok (.aload_n 0, 1) := by decide +kernel
theorem dX12_feed_26 : decode cX12_feed 26 = .ok (.iload_n 3, 1) := by decide +kernel
theorem dX12_feed_27 : decode cX12_feed 27 = .ok (.invokevirtual 200, 3) := by decide +kernel
theorem dX12_feed_30 : decode cX12_feed 30 = .ok (.aload_n 0, 1) := by decide +kernel
theorem dX12_feed_31 : decode cX12_feed 31 = .ok (.iload 4, 2) := by decide +kernel
theorem dX12_feed_33 : decode cX12_feed 33 = .ok (.invokevirtual 200, 3) := by decide +kernel
theorem dX12_feed_36 : decode cX12_feed 36 = .ok (.aload_n 0, 1) := by decide +kernel
theorem dX12_feed_37 : decode cX12_feed 37 = .ok (.iload 5, 2) := by decide +kernel
theorem dX12_feed_39 : decode cX12_feed 39 = .ok (.invokevirtual 200, 3) := by decide +kernel
theorem dX12_feed_42 : decode cX12_feed 42 = .ok (.aload_n 0, 1) := by decide +kernel
theorem dX12_feed_43 : decode cX12_feed 43 = .ok (.getfield 197, 3) := by decide +kernel
theorem dX12_feed_46 : decode cX12_feed 46 = .ok (.ireturn, 1) := by decide +kernel
def xX12_feed  (l1 : Int32) (l2 : Int32) (l3 : Int32) (l4 : Int32) (l5 : Int32) (M : j_M) : Option (Int32 × j_M) := oli (M 200 11) fun v1 => (if (v1 + (nI 20)) ≤ (nI 400) then obv (xX12_tapes l1 M) fun M2 => obv (xX12_tapes l2 M2) fun M3 => obv (xX12_tapes l3 M3) fun M4 => obv (xX12_tapes l4 M4) fun M5 => obv (xX12_tapes l5 M5) fun M6 => oli (M6 200 11) fun v7 => some (v7, M6) else some ((-1 : Int32), M))
set_option maxRecDepth 20000 in
set_option maxHeartbeats 2000000 in
theorem tX12_feed  (l1 : Int32) (l2 : Int32) (l3 : Int32) (l4 : Int32) (l5 : Int32) (M : j_M) : J (ρ := Int32 × j_M) yX12_feed cX12_feed 6 (some .int) 1 22 j_ei 0 [(0, .inr (17, 0, 200)), (1, .inl (l1)), (2, .inl (l2)), (3, .inl (l3)), (4, .inl (l4)), (5, .inl (l5))] [] M (xX12_feed  l1 l2 l3 l4 l5 M) := by
  unfold xX12_feed
  refine K_aload_n (q := 1) 0 dX12_feed_0 rfl rfl rfl ?_
  refine K_getI (q := 4) (ci := 7) 11 dX12_feed_1 fRX12_197 rfl rfl rfl (fun v1 => ?_)
  refine K_bipush (q := 6) (v := nI 20) dX12_feed_4 rfl rfl ?_
  refine K_iadd (q := 7) dX12_feed_6 rfl ?_
  refine K_sipush (q := 10) (v := nI 400) dX12_feed_7 rfl rfl ?_
  refine K_icmp_le (q := 13) (tgt := 15) dX12_feed_10 rfl ?_ rfl ?_
  · refine K_aload_n (q := 16) 0 dX12_feed_15 rfl rfl rfl ?_
    refine K_iload_n (q := 17) 1 dX12_feed_16 rfl rfl rfl ?_
    refine K_cvv (q := 20) [.inl (l1)] dX12_feed_17 cb_X12_tapes cvRX12_200 rc_7 (show (17 : Nat) ≠ 0 by decide) rfl (Nat.le_of_ble_eq_true rfl) ⟨by decide, by decide⟩ (Nat.le_of_ble_eq_true rfl) rfl (tX12_tapes l1 M) rfl (fun M2 => ?_)
    refine K_aload_n (q := 21) 0 dX12_feed_20 rfl rfl rfl ?_
    refine K_iload_n (q := 22) 2 dX12_feed_21 rfl rfl rfl ?_
    refine K_cvv (q := 25) [.inl (l2)] dX12_feed_22 cb_X12_tapes cvRX12_200 rc_7 (show (17 : Nat) ≠ 0 by decide) rfl (Nat.le_of_ble_eq_true rfl) ⟨by decide, by decide⟩ (Nat.le_of_ble_eq_true rfl) rfl (tX12_tapes l2 M2) rfl (fun M3 => ?_)
    refine K_aload_n (q := 26) 0 dX12_feed_25 rfl rfl rfl ?_
    refine K_iload_n (q := 27) 3 dX12_feed_26 rfl rfl rfl ?_
    refine K_cvv (q := 30) [.inl (l3)] dX12_feed_27 cb_X12_tapes cvRX12_200 rc_7 (show (17 : Nat) ≠ 0 by decide) rfl (Nat.le_of_ble_eq_true rfl) ⟨by decide, by decide⟩ (Nat.le_of_ble_eq_true rfl) rfl (tX12_tapes l3 M3) rfl (fun M4 => ?_)
    refine K_aload_n (q := 31) 0 dX12_feed_30 rfl rfl rfl ?_
    refine K_iload (q := 33) 4 dX12_feed_31 rfl rfl ?_
    refine K_cvv (q := 36) [.inl (l4)] dX12_feed_33 cb_X12_tapes cvRX12_200 rc_7 (show (17 : Nat) ≠ 0 by decide) rfl (Nat.le_of_ble_eq_true rfl) ⟨by decide, by decide⟩ (Nat.le_of_ble_eq_true rfl) rfl (tX12_tapes l4 M4) rfl (fun M5 => ?_)
    refine K_aload_n (q := 37) 0 dX12_feed_36 rfl rfl rfl ?_
    refine K_iload (q := 39) 5 dX12_feed_37 rfl rfl ?_
    refine K_cvv (q := 42) [.inl (l5)] dX12_feed_39 cb_X12_tapes cvRX12_200 rc_7 (show (17 : Nat) ≠ 0 by decide) rfl (Nat.le_of_ble_eq_true rfl) ⟨by decide, by decide⟩ (Nat.le_of_ble_eq_true rfl) rfl (tX12_tapes l5 M5) rfl (fun M6 => ?_)
    refine K_aload_n (q := 43) 0 dX12_feed_42 rfl rfl rfl ?_
    refine K_getI (q := 46) (ci := 7) 11 dX12_feed_43 fRX12_197 rfl rfl rfl (fun v7 => ?_)
    exact J_iret dX12_feed_46
  · refine K_iconst (q := 14) (v := -1) dX12_feed_13 rfl rfl ?_
    exact J_iret dX12_feed_14
theorem dX12_tick_0 : decode cX12_tick 0 = .ok (.iload_n 1, 1) := by decide +kernel
theorem dX12_tick_1 : decode cX12_tick 1 = .ok (.iconst 1, 1) := by decide +kernel
theorem dX12_tick_2 : decode cX12_tick 2 = .ok (.bipush 99, 2) := by decide +kernel
theorem dX12_tick_4 : decode cX12_tick 4 = .ok (.invokestatic 65, 3) := by decide +kernel
theorem dX12_tick_7 : decode cX12_tick 7 = .ok (.ifCond .eq 17, 3) := by decide +kernel
theorem dX12_tick_10 : decode cX12_tick 10 = .ok (.aload_n 0, 1) := by decide +kernel
theorem dX12_tick_11 : decode cX12_tick 11 = .ok (.getfield 9, 3) := by decide +kernel
theorem dX12_tick_14 : decode cX12_tick 14 = .ok (.iconst 5, 1) := by decide +kernel
theorem dX12_tick_15 : decode cX12_tick 15 = .ok (.iaload, 1) := by decide +kernel
theorem dX12_tick_16 : decode cX12_tick 16 = .ok (.iload_n 1, 1) := by decide +kernel
theorem dX12_tick_17 : decode cX12_tick 17 = .ok (.iadd, 1) := by decide +kernel
theorem dX12_tick_18 : decode cX12_tick 18 = .ok (.sipush 9999, 3) := by decide +kernel
theorem dX12_tick_21 : decode cX12_tick 21 = .ok (.if_icmp .le 5, 3) := by decide +kernel
theorem dX12_tick_24 : decode cX12_tick 24 = .ok (.iconst (-1), 1) := by decide +kernel
theorem dX12_tick_25 : decode cX12_tick 25 = .ok (.ireturn, 1) := by decide +kernel
theorem dX12_tick_26 : decode cX12_tick 26 = .ok (.iconst 0, 1) := by decide +kernel
theorem dX12_tick_27 : decode cX12_tick 27 = .ok (.istore_n 2, 1) := by decide +kernel
theorem dX12_tick_28 : decode cX12_tick 28 = .ok (.iload_n 2, 1) := by decide +kernel
theorem dX12_tick_29 : decode cX12_tick 29 = .ok (.iload_n 1, 1) := by decide +kernel
theorem dX12_tick_30 : decode cX12_tick 30 = .ok (.if_icmp .ge 13, 3) := by decide +kernel
theorem dX12_tick_33 : decode cX12_tick 33 = .ok (.aload_n 0, 1) := by decide +kernel
theorem dX12_tick_34 : decode cX12_tick 34 = .ok (.invokevirtual 191, 3) := by decide +kernel
theorem dX12_tick_37 : decode cX12_tick 37 = .ok (.iinc 2 1, 3) := by decide +kernel
theorem dX12_tick_40 : decode cX12_tick 40 = .ok (.goto (-12), 3) := by decide +kernel
theorem dX12_tick_43 : decode cX12_tick 43 = .ok (.aload_n 0, 1) := by decide +kernel
theorem dX12_tick_44 : decode cX12_tick 44 = .ok (.getfield 9, 3) := by decide +kernel
theorem dX12_tick_47 : decode cX12_tick 47 = .ok (.iconst 5, 1) := by decide +kernel
theorem dX12_tick_48 : decode cX12_tick 48 = .ok (.iaload, 1) := by decide +kernel
theorem dX12_tick_49 : decode cX12_tick 49 = .ok (.ireturn, 1) := by decide +kernel
def xX12_tick_28   : Nat → Int32 → Int32 → j_M → Option (Int32 × j_M)
  | 0, _, _, _ => none
  | n + 1, l1, l2, M => (if l1 ≤ l2 then gd (nI 5) 7460 (oli (M 201 (ix (nI 5))) fun v1 => some (v1, M)) else obv (xX12_ticksOnce M) fun M2 => xX12_tick_28  n l1 (l2 + (nI 1)) M2)
set_option maxRecDepth 20000 in
set_option maxHeartbeats 2000000 in
theorem tX12_tick_28    : ∀ (n : Nat) (l1 : Int32) (l2 : Int32) (M : j_M), J (ρ := Int32 × j_M) yX12_tick cX12_tick 3 (some .int) 9 210 j_ei 28 [(0, .inr (17, 0, 200)), (1, .inl (l1)), (2, .inl (l2))] [] M (xX12_tick_28  n l1 l2 M) := by
  intro n
  induction n with
  | zero => intros; exact J_none
  | succ n ih =>
    intro l1 l2 M
    rw [xX12_tick_28.eq_2]
    refine K_iload_n (q := 29) 2 dX12_tick_28 rfl rfl rfl ?_
    refine K_iload_n (q := 30) 1 dX12_tick_29 rfl rfl rfl ?_
    refine K_icmp_ge (q := 33) (tgt := 43) dX12_tick_30 rfl ?_ rfl ?_
    · refine K_aload_n (q := 44) 0 dX12_tick_43 rfl rfl rfl ?_
      refine K_getR (q := 47) (ci := 7) (a2 := 201) 0 dX12_tick_44 fRX12_9 rfl rfl (by decide) rfl rfl ?_
      refine K_iconst (q := 48) (v := nI 5) dX12_tick_47 rfl rfl ?_
      refine K_iald (q := 49) dX12_tick_48 rfl (fun v1 => ?_)
      exact J_iret dX12_tick_49
    · refine K_aload_n (q := 34) 0 dX12_tick_33 rfl rfl rfl ?_
      refine K_cvv (q := 37) [] dX12_tick_34 cb_X12_ticksOnce cvRX12_191 rc_7 (show (17 : Nat) ≠ 0 by decide) rfl (Nat.le_of_ble_eq_true rfl) ⟨by decide, by decide⟩ (Nat.le_of_ble_eq_true rfl) rfl (tX12_ticksOnce M) rfl (fun M2 => ?_)
      refine K_iinc (q := 40) (v := l2 + (nI 1)) (ll' := [(2, .inl (l2 + (nI 1))), (0, .inr (17, 0, 200)), (1, .inl (l1))]) 2 dX12_tick_37 rfl rfl (by decide) rfl rfl ?_
      refine J_goto (tgt := 28) dX12_tick_40 rfl ?_
      exact J_sub [1, 2, 0] (ih l1 (l2 + (nI 1)) M2) rfl
def xX12_tick  (l1 : Int32) (M : j_M) : Option (Int32 × j_M) := obi (xX12_isIn l1 (nI 1) (nI 99) M) fun v2 M1 => (if v2 = (0 : Int32) then some ((-1 : Int32), M1) else gd (nI 5) 7460 (oli (M1 201 (ix (nI 5))) fun v3 => (if (v3 + l1) ≤ (nI 9999) then xX12_tick_28 fu l1 (nI 0) M1 else some ((-1 : Int32), M1))))
set_option maxRecDepth 20000 in
set_option maxHeartbeats 2000000 in
theorem tX12_tick  (l1 : Int32) (M : j_M) : J (ρ := Int32 × j_M) yX12_tick cX12_tick 3 (some .int) 9 210 j_ei 0 [(0, .inr (17, 0, 200)), (1, .inl (l1))] [] M (xX12_tick  l1 M) := by
  unfold xX12_tick
  refine K_iload_n (q := 1) 1 dX12_tick_0 rfl rfl rfl ?_
  refine K_iconst (q := 2) (v := nI 1) dX12_tick_1 rfl rfl ?_
  refine K_bipush (q := 4) (v := nI 99) dX12_tick_2 rfl rfl ?_
  refine K_csi (q := 7) [.inl (l1), .inl ((nI 1)), .inl ((nI 99))] dX12_tick_4 cb_X12_isIn cvRX12_65 rfl (Nat.le_of_ble_eq_true rfl) ⟨by decide, by decide⟩ (Nat.le_of_ble_eq_true rfl) rfl (tX12_isIn l1 (nI 1) (nI 99) M) rfl (fun v2 M1 => ?_)
  refine K_if_eq (q := 10) (tgt := 24) dX12_tick_7 rfl ?_ rfl ?_
  · refine K_iconst (q := 25) (v := -1) dX12_tick_24 rfl rfl ?_
    exact J_iret dX12_tick_25
  · refine K_aload_n (q := 11) 0 dX12_tick_10 rfl rfl rfl ?_
    refine K_getR (q := 14) (ci := 7) (a2 := 201) 0 dX12_tick_11 fRX12_9 rfl rfl (by decide) rfl rfl ?_
    refine K_iconst (q := 15) (v := nI 5) dX12_tick_14 rfl rfl ?_
    refine K_iald (q := 16) dX12_tick_15 rfl (fun v3 => ?_)
    refine K_iload_n (q := 17) 1 dX12_tick_16 rfl rfl rfl ?_
    refine K_iadd (q := 18) dX12_tick_17 rfl ?_
    refine K_sipush (q := 21) (v := nI 9999) dX12_tick_18 rfl rfl ?_
    refine K_icmp_le (q := 24) (tgt := 26) dX12_tick_21 rfl ?_ rfl ?_
    · refine K_iconst (q := 27) (v := nI 0) dX12_tick_26 rfl rfl ?_
      refine K_istore_n (q := 28) (ll' := [(2, .inl ((nI 0))), (0, .inr (17, 0, 200)), (1, .inl (l1))]) dX12_tick_27 rfl (by decide) rfl rfl ?_
      exact J_sub [1, 2, 0] (tX12_tick_28 fu l1 (nI 0) M1) rfl
    · refine K_iconst (q := 25) (v := -1) dX12_tick_24 rfl rfl ?_
      exact J_iret dX12_tick_25
theorem dX12_makes_0 : decode cX12_makes 0 = .ok (.aload_n 0, 1) := by decide +kernel
theorem dX12_makes_1 : decode cX12_makes 1 = .ok (.iconst 0, 1) := by decide +kernel
theorem dX12_makes_2 : decode cX12_makes 2 = .ok (.putfield 301, 3) := by decide +kernel
theorem dX12_makes_5 : decode cX12_makes 5 = .ok (.aload_n 0, 1) := by decide +kernel
theorem dX12_makes_6 : decode cX12_makes 6 = .ok (.iconst 0, 1) := by decide +kernel
theorem dX12_makes_7 : decode cX12_makes 7 = .ok (.putfield 283, 3) := by decide +kernel
theorem dX12_makes_10 : decode cX12_makes 10 = .ok (.iconst 0, 1) := by decide +kernel
theorem dX12_makes_11 : decode cX12_makes 11 = .ok (.istore_n 1, 1) := by decide +kernel
theorem dX12_makes_12 : decode cX12_makes 12 = .ok (.iload_n 1, 1) := by decide +kernel
theorem dX12_makes_13 : decode cX12_makes 13 = .ok (.aload_n 0, 1) := by decide +kernel
theorem dX12_makes_14 : decode cX12_makes 14 = .ok (.getfield 280, 3) := by decide +kernel
theorem dX12_makes_17 : decode cX12_makes 17 = .ok (.if_icmp .lt 10, 3) := by decide +kernel
theorem dX12_makes_20 : decode cX12_makes 20 = .ok (.aload_n 0, 1) := by decide +kernel
theorem dX12_makes_21 : decode cX12_makes 21 = .ok (.getfield 283, 3) := by decide +kernel
theorem dX12_makes_24 : decode cX12_makes 24 = .ok (.ifCond .le 224, 3) := by decide +kernel
theorem dX12_makes_27 : decode cX12_makes 27 = .ok (.aload_n 0, 1) := by decide +kernel
theorem dX12_makes_28 : decode cX12_makes 28 = .ok (.getfield 283, 3) := by decide +kernel
theorem dX12_makes_31 : decode cX12_makes 31 = .ok (.ifCond .le 86, 3) := by decide +kernel
theorem dX12_makes_34 : decode cX12_makes 34 = .ok (.iload_n 1, 1) := by decide +kernel
theorem dX12_makes_35 : decode cX12_makes 35 = .ok (.aload_n 0, 1) := by decide +kernel
theorem dX12_makes_36 : decode cX12_makes 36 = .ok (.getfield 26, 3) := by decide +kernel
theorem dX12_makes_39 : decode cX12_makes 39 = .ok (.iconst 4, 1) := by decide +kernel
theorem dX12_makes_40 : decode cX12_makes 40 = .ok (.aload_n 0, 1) := by decide +kernel
theorem dX12_makes_41 : decode cX12_makes 41 = .ok (.getfield 35, 3) := by decide +kernel
theorem dX12_makes_44 : decode cX12_makes 44 = .ok (.aload_n 0, 1) := by decide +kernel
theorem dX12_makes_45 : decode cX12_makes 45 = .ok (.getfield 283, 3) := by decide +kernel
theorem dX12_makes_48 : decode cX12_makes 48 = .ok (.iconst 1, 1) := by decide +kernel
theorem dX12_makes_49 : decode cX12_makes 49 = .ok (.isub, 1) := by decide +kernel
theorem dX12_makes_50 : decode cX12_makes 50 = .ok (.iaload, 1) := by decide +kernel
theorem dX12_makes_51 : decode cX12_makes 51 = .ok (.imul, 1) := by decide +kernel
theorem dX12_makes_52 : decode cX12_makes 52 = .ok (.iconst 3, 1) := by decide +kernel
theorem dX12_makes_53 : decode cX12_makes 53 = .ok (.iadd, 1) := by decide +kernel
theorem dX12_makes_54 : decode cX12_makes 54 = .ok (.iaload, 1) := by decide +kernel
theorem dX12_makes_55 : decode cX12_makes 55 = .ok (.if_icmp .ne 62, 3) := by decide +kernel
theorem dX12_makes_58 : decode cX12_makes 58 = .ok (.aload_n 0, 1) := by decide +kernel
theorem dX12_makes_59 : decode cX12_makes 59 = .ok (.getfield 38, 3) := by decide +kernel
theorem dX12_makes_62 : decode cX12_makes 62 = .ok (.aload_n 0, 1) := by decide +kernel
theorem dX12_makes_63 : decode cX12_makes 63 = .ok (.getfield 283, 3) := by decide +kernel
theorem dX12_makes_66 : decode cX12_makes 66 = .ok (.iconst 1, 1) := by decide +kernel
theorem dX12_makes_67 : decode cX12_makes 67 = .ok (.isub, 1) := by decide +kernel
theorem dX12_makes_68 : decode cX12_makes 68 = .ok (.dup2, 1) := by decide +kernel
theorem dX12_makes_69 : decode cX12_makes 69 = .ok (.iaload, 1) := by decide +kernel
theorem dX12_makes_70 : decode cX12_makes 70 = .ok (.iconst 1, 1) := by decide +kernel
theorem dX12_makes_71 : decode cX12_makes 71 = .ok (.isub, 1) := by decide +kernel
theorem dX12_makes_72 : decode cX12_makes 72 = .ok (.iastore, 1) := by decide +kernel
theorem dX12_makes_73 : decode cX12_makes 73 = .ok (.aload_n 0, 1) := by decide +kernel
theorem dX12_makes_74 : decode cX12_makes 74 = .ok (.getfield 38, 3) := by decide +kernel
theorem dX12_makes_77 : decode cX12_makes 77 = .ok (.aload_n 0, 1) := by decide +kernel
theorem dX12_makes_78 : decode cX12_makes 78 = .ok (.getfield 283, 3) := by decide +kernel
theorem dX12_makes_81 : decode cX12_makes 81 = .ok (.iconst 1, 1) := by decide +kernel
theorem dX12_makes_82 : decode cX12_makes 82 = .ok (.isub, 1) := by decide +kernel
theorem dX12_makes_83 : decode cX12_makes 83 = .ok (.iaload, 1) := by decide +kernel
theorem dX12_makes_84 : decode cX12_makes 84 = .ok (.ifCond .le 20, 3) := by decide +kernel
theorem dX12_makes_87 : decode cX12_makes 87 = .ok (.aload_n 0, 1) := by decide +kernel
theorem dX12_makes_88 : decode cX12_makes 88 = .ok (.getfield 35, 3) := by decide +kernel
theorem dX12_makes_91 : decode cX12_makes 91 = .ok (.aload_n 0, 1) := by decide +kernel
theorem dX12_makes_92 : decode cX12_makes 92 = .ok (.getfield 283, 3) := by decide +kernel
theorem dX12_makes_95 : decode cX12_makes 95 = .ok (.iconst 1, 1) := by decide +kernel
theorem dX12_makes_96 : decode cX12_makes 96 = .ok (.isub, 1) := by decide +kernel
theorem dX12_makes_97 : decode cX12_makes 97 = .ok (.iaload, 1) := by decide +kernel
theorem dX12_makes_98 : decode cX12_makes 98 = .ok (.iconst 1, 1) := by decide +kernel
theorem dX12_makes_99 : decode cX12_makes 99 = .ok (.iadd, 1) := by decide +kernel
theorem dX12_makes_100 : decode cX12_makes 100 = .ok (.istore_n 1, 1) := by decide +kernel
theorem dX12_makes_101 : decode cX12_makes 101 = .ok (.goto (-89), 3) := by decide +kernel
theorem dX12_makes_104 : decode cX12_makes 104 = .ok (.aload_n 0, 1) := by decide +kernel
theorem dX12_makes_105 : decode cX12_makes 105 = .ok (.dup, 1) := by decide +kernel
theorem dX12_makes_106 : decode cX12_makes 106 = .ok (.getfield 283, 3) := by decide +kernel
theorem dX12_makes_109 : decode cX12_makes 109 = .ok (.iconst 1, 1) := by decide +kernel
theorem dX12_makes_110 : decode cX12_makes 110 = .ok (.isub, 1) := by decide +kernel
theorem dX12_makes_111 : decode cX12_makes 111 = .ok (.putfield 283, 3) := by decide +kernel
theorem dX12_makes_114 : decode cX12_makes 114 = .ok (.goto (-102), 3) := by decide +kernel
theorem dX12_makes_117 : decode cX12_makes 117 = .ok (.aload_n 0, 1) := by decide +kernel
theorem dX12_makes_118 : decode cX12_makes 118 = .ok (.getfield 26, 3) := by decide +kernel
theorem dX12_makes_121 : decode cX12_makes 121 = .ok (.iconst 4, 1) := by decide +kernel
theorem dX12_makes_122 : decode cX12_makes 122 = .ok (.iload_n 1, 1) := by decide +kernel
theorem dX12_makes_123 : decode cX12_makes 123 = .ok (.imul, 1) := by decide +kernel
theorem dX12_makes_124 : decode cX12_makes 124 = .ok (.iaload, 1) := by decide +kernel
theorem dX12_makes_125 : decode cX12_makes 125 = .ok (.iconst 4, 1) := by decide +kernel
theorem dX12_makes_126 : decode cX12_makes 126 = .ok (.if_icmp .ne 45, 3) := by decide +kernel
theorem dX12_makes_129 : decode cX12_makes 129 = .ok (.aload_n 0, 1) := by decide +kernel
theorem dX12_makes_130 : decode cX12_makes 130 = .ok (.getfield 35, 3) := by decide +kernel
theorem dX12_makes_133 : decode cX12_makes 133 = .ok (.aload_n 0, 1) := by decide +kernel
theorem dX12_makes_134 : decode cX12_makes 134 = .ok (.getfield 283, 3) := by decide +kernel
theorem dX12_makes_137 : decode cX12_makes 137 = .ok (.iload_n 1, 1) := by decide +kernel
theorem dX12_makes_138 : decode cX12_makes 138 = .ok (.iastore, 1) := by decide +kernel
theorem dX12_makes_139 : decode cX12_makes 139 = .ok (.aload_n 0, 1) := by decide +kernel
theorem dX12_makes_140 : decode cX12_makes 140 = .ok (.getfield 38, 3) := by decide +kernel
theorem dX12_makes_143 : decode cX12_makes 143 = .ok (.aload_n 0, 1) := by decide +kernel
theorem dX12_makes_144 : decode cX12_makes 144 = .ok (.getfield 283, 3) := by decide +kernel
theorem dX12_makes_147 : decode cX12_makes 147 = .ok (.aload_n 0, 1) := by decide +kernel
theorem dX12_makes_148 : decode cX12_makes 148 = .ok (.getfield 26, 3) := by decide +kernel
theorem dX12_makes_151 : decode cX12_makes 151 = .ok (.iconst 4, 1) := by decide +kernel
theorem dX12_makes_152 : decode cX12_makes 152 = .ok (.iload_n 1, 1) := by decide +kernel
theorem dX12_makes_153 : decode cX12_makes 153 = .ok (.imul, 1) := by decide +kernel
theorem dX12_makes_154 : decode cX12_makes 154 = .ok (.iconst 1, 1) := by decide +kernel
theorem dX12_makes_155 : decode cX12_makes 155 = .ok (.iadd, 1) := by decide +kernel
theorem dX12_makes_156 : decode cX12_makes 156 = .ok (.iaload, 1) := by decide +kernel
theorem dX12_makes_157 : decode cX12_makes 157 = .ok (.iastore, 1) := by decide +kernel
theorem dX12_makes_158 : decode cX12_makes 158 = .ok (.aload_n 0, 1) := by decide +kernel
theorem dX12_makes_159 : decode cX12_makes 159 = .ok (.dup, 1) := by decide +kernel
theorem dX12_makes_160 : decode cX12_makes 160 = .ok (.getfield 283, 3) := by decide +kernel
theorem dX12_makes_163 : decode cX12_makes 163 = .ok (.iconst 1, 1) := by decide +kernel
theorem dX12_makes_164 : decode cX12_makes 164 = .ok (.iadd, 1) := by decide +kernel
theorem dX12_makes_165 : decode cX12_makes 165 = .ok (.putfield 283, 3) := by decide +kernel
theorem dX12_makes_168 : decode cX12_makes 168 = .ok (.goto 74, 3) := by decide +kernel
theorem dX12_makes_171 : decode cX12_makes 171 = .ok (.aload_n 0, 1) := by decide +kernel
theorem dX12_makes_172 : decode cX12_makes 172 = .ok (.getfield 301, 3) := by decide +kernel
theorem dX12_makes_175 : decode cX12_makes 175 = .ok (.sipush 200, 3) := by decide +kernel
theorem dX12_makes_178 : decode cX12_makes 178 = .ok (.if_icmp .ne 18, 3) := by decide +kernel
theorem dX12_makes_181 : decode cX12_makes 181 = .ok (.aload_n 0, 1) := by decide +kernel
theorem dX12_makes_182 : decode cX12_makes 182 = .ok (.iconst 4, 1) := by decide +kernel
theorem dX12_makes_183 : decode cX12_makes 183 = .ok (.putfield 268, 3) := by decide +kernel
theorem dX12_makes_186 : decode cX12_makes 186 = .ok (.aload_n 0, 1) := by decide +kernel
theorem dX12_makes_187 : decode cX12_makes 187 = .ok (.aload_n 0, 1) := by decide +kernel
theorem dX12_makes_188 : decode cX12_makes 188 = .ok (.getfield 197, 3) := by decide +kernel
theorem dX12_makes_191 : decode cX12_makes 191 = .ok (.putfield 271, 3) := by decide +kernel
theorem dX12_makes_194 : decode cX12_makes 194 = .ok (.iconst 0, 1) := by decide +kernel
theorem dX12_makes_195 : decode cX12_makes 195 = .ok (.ireturn, 1) := by decide +kernel
theorem dX12_makes_196 : decode cX12_makes 196 = .ok (.iconst 0, 1) := by decide +kernel
theorem dX12_makes_197 : decode cX12_makes 197 = .ok (.istore_n 2, 1) := by decide +kernel
theorem dX12_makes_198 : decode cX12_makes 198 = .ok (.iload_n 2, 1) := by decide +kernel
theorem dX12_makes_199 : decode cX12_makes 199 = .ok (.iconst 3, 1) := by decide +kernel
theorem dX12_makes_200 : decode cX12_makes 200 = .ok (.if_icmp .ge 32, 3) := by decide +kernel
theorem dX12_makes_203 : decode cX12_makes 203 = .ok (.aload_n 0, 1) := by decide +kernel
theorem dX12_makes_204 : decode cX12_makes 204 = .ok (.getfield 32, 3) := by decide +kernel
theorem dX12_makes_207 : decode cX12_makes 207 = .ok (.iconst 3, 1) := by decide +kernel
theorem dX12_makes_208 : decode cX12_makes 208 = .ok (.aload_n 0, 1) := by decide +kernel
theorem dX12_makes_209 : decode cX12_makes 209 = .ok (.getfield 301, 3) := by decide +kernel
theorem dX12_makes_212 : decode cX12_makes 212 = .ok (.imul, 1) := by decide +kernel
theorem dX12_makes_213 : decode cX12_makes 213 = .ok (.iload_n 2, 1) := by decide +kernel
theorem dX12_makes_214 : decode cX12_makes 214 = .ok (.iadd, 1) := by decide +kernel
theorem dX12_makes_215 : decode cX12_makes 215 = .ok (.aload_n 0, 1) := by decide +kernel
theorem dX12_makes_216 : decode cX12_makes 216 = .ok (.getfield 26, 3) := by decide +kernel
theorem dX12_makes_219 : decode cX12_makes 219 = .ok (.iconst 4, 1) := by decide +kernel
theorem dX12_makes_220 : decode cX12_makes 220 = .ok (.iload_n 1, 1) := by decide +kernel
theorem dX12_makes_221 : decode cX12_makes 221 = .ok (.imul, 1) := by decide +kernel
theorem dX12_makes_222 : decode cX12_makes 222 = .ok (.iload_n 2, 1) := by decide +kernel
theorem dX12_makes_223 : decode cX12_makes 223 = .ok (.iadd, 1) := by decide +kernel
theorem dX12_makes_224 : decode cX12_makes 224 = .ok (.iaload, 1) := by decide +kernel
theorem dX12_makes_225 : decode cX12_makes 225 = .ok (.iastore, 1) := by decide +kernel
theorem dX12_makes_226 : decode cX12_makes 226 = .ok (.iinc 2 1, 3) := by decide +kernel
theorem dX12_makes_229 : decode cX12_makes 229 = .ok (.goto (-31), 3) := by decide +kernel
theorem dX12_makes_232 : decode cX12_makes 232 = .ok (.aload_n 0, 1) := by decide +kernel
theorem dX12_makes_233 : decode cX12_makes 233 = .ok (.dup, 1) := by decide +kernel
theorem dX12_makes_234 : decode cX12_makes 234 = .ok (.getfield 301, 3) := by decide +kernel
theorem dX12_makes_237 : decode cX12_makes 237 = .ok (.iconst 1, 1) := by decide +kernel
theorem dX12_makes_238 : decode cX12_makes 238 = .ok (.iadd, 1) := by decide +kernel
theorem dX12_makes_239 : decode cX12_makes 239 = .ok (.putfield 301, 3) := by decide +kernel
theorem dX12_makes_242 : decode cX12_makes 242 = .ok (.iinc 1 1, 3) := by decide +kernel
theorem dX12_makes_245 : decode cX12_makes 245 = .ok (.goto (-233), 3) := by decide +kernel
theorem dX12_makes_248 : decode cX12_makes 248 = .ok (.iconst 1, 1) := by decide +kernel
theorem dX12_makes_249 : decode cX12_makes 249 = .ok (.ireturn, 1) := by decide +kernel
def xX12_makes_198 (k12 : Int32 → j_M → Option (Int32 × j_M))  : Nat → Int32 → Int32 → j_M → Option (Int32 × j_M)
  | 0, _, _, _ => none
  | n + 1, l1, l2, M => (if (nI 3) ≤ l2 then oli (M 200 18) fun v1 => oml (mw M 200 18 (v1 + (nI 1))) fun M2 => k12 (l1 + (nI 1)) M2 else oli (M 200 18) fun v3 => gd (((nI 4) * l1) + l2) 1600 (oli (M 206 (ix (((nI 4) * l1) + l2))) fun v4 => gd (((nI 3) * v3) + l2) 600 (oml (mw M 208 (ix (((nI 3) * v3) + l2)) v4) fun M5 => xX12_makes_198 k12 n l1 (l2 + (nI 1)) M5)))
set_option maxRecDepth 20000 in
set_option maxHeartbeats 2000000 in
theorem tX12_makes_198 (k12 : Int32 → j_M → Option (Int32 × j_M))  (hk12 : ∀ (l1 : Int32) (M : j_M), J (ρ := Int32 × j_M) yX12_makes cX12_makes 3 (some .boolean) 0 0 j_ei 12 [(0, .inr (17, 0, 200)), (1, .inl (l1))] [] M (k12 l1 M)) : ∀ (n : Nat) (l1 : Int32) (l2 : Int32) (M : j_M), J (ρ := Int32 × j_M) yX12_makes cX12_makes 3 (some .boolean) 0 0 j_ei 198 [(0, .inr (17, 0, 200)), (1, .inl (l1)), (2, .inl (l2))] [] M (xX12_makes_198 k12 n l1 l2 M) := by
  intro n
  induction n with
  | zero => intros; exact J_none
  | succ n ih =>
    intro l1 l2 M
    rw [xX12_makes_198.eq_2]
    refine K_iload_n (q := 199) 2 dX12_makes_198 rfl rfl rfl ?_
    refine K_iconst (q := 200) (v := nI 3) dX12_makes_199 rfl rfl ?_
    refine K_icmp_ge (q := 203) (tgt := 232) dX12_makes_200 rfl ?_ rfl ?_
    · refine K_aload_n (q := 233) 0 dX12_makes_232 rfl rfl rfl ?_
      refine K_dup (q := 234) dX12_makes_233 rfl ?_
      refine K_getI (q := 237) (ci := 7) 18 dX12_makes_234 fRX12_301 rfl rfl rfl (fun v1 => ?_)
      refine K_iconst (q := 238) (v := nI 1) dX12_makes_237 rfl rfl ?_
      refine K_iadd (q := 239) dX12_makes_238 rfl ?_
      refine K_putI (q := 242) (ci := 7) 18 dX12_makes_239 fRX12_301 fp_7_18 rfl rfl (by decide) rfl (fun M2 => ?_)
      refine K_iinc (q := 245) (v := l1 + (nI 1)) (ll' := [(1, .inl (l1 + (nI 1))), (0, .inr (17, 0, 200)), (2, .inl (l2))]) 1 dX12_makes_242 rfl rfl (by decide) rfl rfl ?_
      refine J_goto (tgt := 12) dX12_makes_245 rfl ?_
      exact J_sub [1, 0] (hk12 (l1 + (nI 1)) M2) rfl
    · refine K_aload_n (q := 204) 0 dX12_makes_203 rfl rfl rfl ?_
      refine K_getR (q := 207) (ci := 7) (a2 := 208) 8 dX12_makes_204 fRX12_32 rfl rfl (by decide) rfl rfl ?_
      refine K_iconst (q := 208) (v := nI 3) dX12_makes_207 rfl rfl ?_
      refine K_aload_n (q := 209) 0 dX12_makes_208 rfl rfl rfl ?_
      refine K_getI (q := 212) (ci := 7) 18 dX12_makes_209 fRX12_301 rfl rfl rfl (fun v3 => ?_)
      refine K_imul (q := 213) dX12_makes_212 rfl ?_
      refine K_iload_n (q := 214) 2 dX12_makes_213 rfl rfl rfl ?_
      refine K_iadd (q := 215) dX12_makes_214 rfl ?_
      refine K_aload_n (q := 216) 0 dX12_makes_215 rfl rfl rfl ?_
      refine K_getR (q := 219) (ci := 7) (a2 := 206) 6 dX12_makes_216 fRX12_26 rfl rfl (by decide) rfl rfl ?_
      refine K_iconst (q := 220) (v := nI 4) dX12_makes_219 rfl rfl ?_
      refine K_iload_n (q := 221) 1 dX12_makes_220 rfl rfl rfl ?_
      refine K_imul (q := 222) dX12_makes_221 rfl ?_
      refine K_iload_n (q := 223) 2 dX12_makes_222 rfl rfl rfl ?_
      refine K_iadd (q := 224) dX12_makes_223 rfl ?_
      refine K_iald (q := 225) dX12_makes_224 rfl (fun v4 => ?_)
      refine K_iast (q := 226) dX12_makes_225 rfl (fun M5 => ?_)
      refine K_iinc (q := 229) (v := l2 + (nI 1)) (ll' := [(2, .inl (l2 + (nI 1))), (0, .inr (17, 0, 200)), (1, .inl (l1))]) 2 dX12_makes_226 rfl rfl (by decide) rfl rfl ?_
      refine J_goto (tgt := 198) dX12_makes_229 rfl ?_
      exact J_sub [1, 2, 0] (ih l1 (l2 + (nI 1)) M5) rfl
def xX12_makes_117 (k12 : Int32 → j_M → Option (Int32 × j_M))  (l1 : Int32) (M : j_M) : Option (Int32 × j_M) := gd ((nI 4) * l1) 1600 (oli (M 206 (ix ((nI 4) * l1))) fun v1 => (if v1 = (nI 4) then oli (M 200 17) fun v6 => gd v6 3 (oml (mw M 209 (ix v6) l1) fun M7 => oli (M7 200 17) fun v8 => gd (((nI 4) * l1) + (nI 1)) 1600 (oli (M7 206 (ix (((nI 4) * l1) + (nI 1)))) fun v9 => gd v8 3 (oml (mw M7 210 (ix v8) v9) fun M10 => oli (M10 200 17) fun v11 => oml (mw M10 200 17 (v11 + (nI 1))) fun M12 => k12 (l1 + (nI 1)) M12))) else oli (M 200 18) fun v2 => (if v2 = (nI 200) then oml (mw M 200 20 (nI 4)) fun M3 => oli (M3 200 11) fun v4 => oml (mw M3 200 21 v4) fun M5 => some ((nI 0), M5) else xX12_makes_198 k12 fu l1 (nI 0) M)))
set_option maxRecDepth 20000 in
set_option maxHeartbeats 2000000 in
theorem tX12_makes_117 (k12 : Int32 → j_M → Option (Int32 × j_M))  (hk12 : ∀ (l1 : Int32) (M : j_M), J (ρ := Int32 × j_M) yX12_makes cX12_makes 3 (some .boolean) 0 0 j_ei 12 [(0, .inr (17, 0, 200)), (1, .inl (l1))] [] M (k12 l1 M)) (l1 : Int32) (M : j_M) : J (ρ := Int32 × j_M) yX12_makes cX12_makes 3 (some .boolean) 0 0 j_ei 117 [(0, .inr (17, 0, 200)), (1, .inl (l1))] [] M (xX12_makes_117 k12 l1 M) := by
  unfold xX12_makes_117
  refine K_aload_n (q := 118) 0 dX12_makes_117 rfl rfl rfl ?_
  refine K_getR (q := 121) (ci := 7) (a2 := 206) 6 dX12_makes_118 fRX12_26 rfl rfl (by decide) rfl rfl ?_
  refine K_iconst (q := 122) (v := nI 4) dX12_makes_121 rfl rfl ?_
  refine K_iload_n (q := 123) 1 dX12_makes_122 rfl rfl rfl ?_
  refine K_imul (q := 124) dX12_makes_123 rfl ?_
  refine K_iald (q := 125) dX12_makes_124 rfl (fun v1 => ?_)
  refine K_iconst (q := 126) (v := nI 4) dX12_makes_125 rfl rfl ?_
  refine K_icmp_ne (q := 129) (tgt := 171) dX12_makes_126 rfl ?_ rfl ?_
  · refine K_aload_n (q := 172) 0 dX12_makes_171 rfl rfl rfl ?_
    refine K_getI (q := 175) (ci := 7) 18 dX12_makes_172 fRX12_301 rfl rfl rfl (fun v2 => ?_)
    refine K_sipush (q := 178) (v := nI 200) dX12_makes_175 rfl rfl ?_
    refine K_icmp_ne (q := 181) (tgt := 196) dX12_makes_178 rfl ?_ rfl ?_
    · refine K_iconst (q := 197) (v := nI 0) dX12_makes_196 rfl rfl ?_
      refine K_istore_n (q := 198) (ll' := [(2, .inl ((nI 0))), (0, .inr (17, 0, 200)), (1, .inl (l1))]) dX12_makes_197 rfl (by decide) rfl rfl ?_
      exact J_sub [1, 2, 0] (tX12_makes_198 k12 hk12 fu l1 (nI 0) M) rfl
    · refine K_aload_n (q := 182) 0 dX12_makes_181 rfl rfl rfl ?_
      refine K_iconst (q := 183) (v := nI 4) dX12_makes_182 rfl rfl ?_
      refine K_putI (q := 186) (ci := 7) 20 dX12_makes_183 fRX12_268 fp_7_20 rfl rfl (by decide) rfl (fun M3 => ?_)
      refine K_aload_n (q := 187) 0 dX12_makes_186 rfl rfl rfl ?_
      refine K_aload_n (q := 188) 0 dX12_makes_187 rfl rfl rfl ?_
      refine K_getI (q := 191) (ci := 7) 11 dX12_makes_188 fRX12_197 rfl rfl rfl (fun v4 => ?_)
      refine K_putI (q := 194) (ci := 7) 21 dX12_makes_191 fRX12_271 fp_7_21 rfl rfl (by decide) rfl (fun M5 => ?_)
      refine K_iconst (q := 195) (v := nI 0) dX12_makes_194 rfl rfl ?_
      exact J_zret dX12_makes_195 (by decide)
  · refine K_aload_n (q := 130) 0 dX12_makes_129 rfl rfl rfl ?_
    refine K_getR (q := 133) (ci := 7) (a2 := 209) 9 dX12_makes_130 fRX12_35 rfl rfl (by decide) rfl rfl ?_
    refine K_aload_n (q := 134) 0 dX12_makes_133 rfl rfl rfl ?_
    refine K_getI (q := 137) (ci := 7) 17 dX12_makes_134 fRX12_283 rfl rfl rfl (fun v6 => ?_)
    refine K_iload_n (q := 138) 1 dX12_makes_137 rfl rfl rfl ?_
    refine K_iast (q := 139) dX12_makes_138 rfl (fun M7 => ?_)
    refine K_aload_n (q := 140) 0 dX12_makes_139 rfl rfl rfl ?_
    refine K_getR (q := 143) (ci := 7) (a2 := 210) 10 dX12_makes_140 fRX12_38 rfl rfl (by decide) rfl rfl ?_
    refine K_aload_n (q := 144) 0 dX12_makes_143 rfl rfl rfl ?_
    refine K_getI (q := 147) (ci := 7) 17 dX12_makes_144 fRX12_283 rfl rfl rfl (fun v8 => ?_)
    refine K_aload_n (q := 148) 0 dX12_makes_147 rfl rfl rfl ?_
    refine K_getR (q := 151) (ci := 7) (a2 := 206) 6 dX12_makes_148 fRX12_26 rfl rfl (by decide) rfl rfl ?_
    refine K_iconst (q := 152) (v := nI 4) dX12_makes_151 rfl rfl ?_
    refine K_iload_n (q := 153) 1 dX12_makes_152 rfl rfl rfl ?_
    refine K_imul (q := 154) dX12_makes_153 rfl ?_
    refine K_iconst (q := 155) (v := nI 1) dX12_makes_154 rfl rfl ?_
    refine K_iadd (q := 156) dX12_makes_155 rfl ?_
    refine K_iald (q := 157) dX12_makes_156 rfl (fun v9 => ?_)
    refine K_iast (q := 158) dX12_makes_157 rfl (fun M10 => ?_)
    refine K_aload_n (q := 159) 0 dX12_makes_158 rfl rfl rfl ?_
    refine K_dup (q := 160) dX12_makes_159 rfl ?_
    refine K_getI (q := 163) (ci := 7) 17 dX12_makes_160 fRX12_283 rfl rfl rfl (fun v11 => ?_)
    refine K_iconst (q := 164) (v := nI 1) dX12_makes_163 rfl rfl ?_
    refine K_iadd (q := 165) dX12_makes_164 rfl ?_
    refine K_putI (q := 168) (ci := 7) 17 dX12_makes_165 fRX12_283 fp_7_17 rfl rfl (by decide) rfl (fun M12 => ?_)
    refine J_goto (tgt := 242) dX12_makes_168 rfl ?_
    refine K_iinc (q := 245) (v := l1 + (nI 1)) (ll' := [(1, .inl (l1 + (nI 1))), (0, .inr (17, 0, 200))]) 1 dX12_makes_242 rfl rfl (by decide) rfl rfl ?_
    refine J_goto (tgt := 12) dX12_makes_245 rfl ?_
    exact J_sub [1, 0] (hk12 (l1 + (nI 1)) M12) rfl
def xX12_makes_27 (k12 : Int32 → j_M → Option (Int32 × j_M))  (l1 : Int32) (M : j_M) : Option (Int32 × j_M) := oli (M 200 17) fun v1 => (if v1 ≤ (0 : Int32) then xX12_makes_117 k12 l1 M else oli (M 200 17) fun v2 => gd (v2 - (nI 1)) 3 (oli (M 209 (ix (v2 - (nI 1)))) fun v3 => gd (((nI 4) * v3) + (nI 3)) 1600 (oli (M 206 (ix (((nI 4) * v3) + (nI 3)))) fun v4 => (if l1 = v4 then oli (M 200 17) fun v5 => gd (v5 - (nI 1)) 3 (oli (M 210 (ix (v5 - (nI 1)))) fun v6 => gd (v5 - (nI 1)) 3 (oml (mw M 210 (ix (v5 - (nI 1))) (v6 - (nI 1))) fun M7 => oli (M7 200 17) fun v8 => gd (v8 - (nI 1)) 3 (oli (M7 210 (ix (v8 - (nI 1)))) fun v9 => (if v9 ≤ (0 : Int32) then oli (M7 200 17) fun v10 => oml (mw M7 200 17 (v10 - (nI 1))) fun M11 => k12 l1 M11 else oli (M7 200 17) fun v12 => gd (v12 - (nI 1)) 3 (oli (M7 209 (ix (v12 - (nI 1)))) fun v13 => k12 (v13 + (nI 1)) M7))))) else xX12_makes_117 k12 l1 M))))
set_option maxRecDepth 20000 in
set_option maxHeartbeats 2000000 in
theorem tX12_makes_27 (k12 : Int32 → j_M → Option (Int32 × j_M))  (hk12 : ∀ (l1 : Int32) (M : j_M), J (ρ := Int32 × j_M) yX12_makes cX12_makes 3 (some .boolean) 0 0 j_ei 12 [(0, .inr (17, 0, 200)), (1, .inl (l1))] [] M (k12 l1 M)) (l1 : Int32) (M : j_M) : J (ρ := Int32 × j_M) yX12_makes cX12_makes 3 (some .boolean) 0 0 j_ei 27 [(0, .inr (17, 0, 200)), (1, .inl (l1))] [] M (xX12_makes_27 k12 l1 M) := by
  unfold xX12_makes_27
  refine K_aload_n (q := 28) 0 dX12_makes_27 rfl rfl rfl ?_
  refine K_getI (q := 31) (ci := 7) 17 dX12_makes_28 fRX12_283 rfl rfl rfl (fun v1 => ?_)
  refine K_if_le (q := 34) (tgt := 117) dX12_makes_31 rfl ?_ rfl ?_
  · exact J_sub [0, 1] (tX12_makes_117 k12 hk12 l1 M) rfl
  · refine K_iload_n (q := 35) 1 dX12_makes_34 rfl rfl rfl ?_
    refine K_aload_n (q := 36) 0 dX12_makes_35 rfl rfl rfl ?_
    refine K_getR (q := 39) (ci := 7) (a2 := 206) 6 dX12_makes_36 fRX12_26 rfl rfl (by decide) rfl rfl ?_
    refine K_iconst (q := 40) (v := nI 4) dX12_makes_39 rfl rfl ?_
    refine K_aload_n (q := 41) 0 dX12_makes_40 rfl rfl rfl ?_
    refine K_getR (q := 44) (ci := 7) (a2 := 209) 9 dX12_makes_41 fRX12_35 rfl rfl (by decide) rfl rfl ?_
    refine K_aload_n (q := 45) 0 dX12_makes_44 rfl rfl rfl ?_
    refine K_getI (q := 48) (ci := 7) 17 dX12_makes_45 fRX12_283 rfl rfl rfl (fun v2 => ?_)
    refine K_iconst (q := 49) (v := nI 1) dX12_makes_48 rfl rfl ?_
    refine K_isub (q := 50) dX12_makes_49 rfl ?_
    refine K_iald (q := 51) dX12_makes_50 rfl (fun v3 => ?_)
    refine K_imul (q := 52) dX12_makes_51 rfl ?_
    refine K_iconst (q := 53) (v := nI 3) dX12_makes_52 rfl rfl ?_
    refine K_iadd (q := 54) dX12_makes_53 rfl ?_
    refine K_iald (q := 55) dX12_makes_54 rfl (fun v4 => ?_)
    refine K_icmp_ne (q := 58) (tgt := 117) dX12_makes_55 rfl ?_ rfl ?_
    · exact J_sub [0, 1] (tX12_makes_117 k12 hk12 l1 M) rfl
    · refine K_aload_n (q := 59) 0 dX12_makes_58 rfl rfl rfl ?_
      refine K_getR (q := 62) (ci := 7) (a2 := 210) 10 dX12_makes_59 fRX12_38 rfl rfl (by decide) rfl rfl ?_
      refine K_aload_n (q := 63) 0 dX12_makes_62 rfl rfl rfl ?_
      refine K_getI (q := 66) (ci := 7) 17 dX12_makes_63 fRX12_283 rfl rfl rfl (fun v5 => ?_)
      refine K_iconst (q := 67) (v := nI 1) dX12_makes_66 rfl rfl ?_
      refine K_isub (q := 68) dX12_makes_67 rfl ?_
      refine K_dup2 (q := 69) dX12_makes_68 rfl ?_
      refine K_iald (q := 70) dX12_makes_69 rfl (fun v6 => ?_)
      refine K_iconst (q := 71) (v := nI 1) dX12_makes_70 rfl rfl ?_
      refine K_isub (q := 72) dX12_makes_71 rfl ?_
      refine K_iast (q := 73) dX12_makes_72 rfl (fun M7 => ?_)
      refine K_aload_n (q := 74) 0 dX12_makes_73 rfl rfl rfl ?_
      refine K_getR (q := 77) (ci := 7) (a2 := 210) 10 dX12_makes_74 fRX12_38 rfl rfl (by decide) rfl rfl ?_
      refine K_aload_n (q := 78) 0 dX12_makes_77 rfl rfl rfl ?_
      refine K_getI (q := 81) (ci := 7) 17 dX12_makes_78 fRX12_283 rfl rfl rfl (fun v8 => ?_)
      refine K_iconst (q := 82) (v := nI 1) dX12_makes_81 rfl rfl ?_
      refine K_isub (q := 83) dX12_makes_82 rfl ?_
      refine K_iald (q := 84) dX12_makes_83 rfl (fun v9 => ?_)
      refine K_if_le (q := 87) (tgt := 104) dX12_makes_84 rfl ?_ rfl ?_
      · refine K_aload_n (q := 105) 0 dX12_makes_104 rfl rfl rfl ?_
        refine K_dup (q := 106) dX12_makes_105 rfl ?_
        refine K_getI (q := 109) (ci := 7) 17 dX12_makes_106 fRX12_283 rfl rfl rfl (fun v10 => ?_)
        refine K_iconst (q := 110) (v := nI 1) dX12_makes_109 rfl rfl ?_
        refine K_isub (q := 111) dX12_makes_110 rfl ?_
        refine K_putI (q := 114) (ci := 7) 17 dX12_makes_111 fRX12_283 fp_7_17 rfl rfl (by decide) rfl (fun M11 => ?_)
        refine J_goto (tgt := 12) dX12_makes_114 rfl ?_
        exact J_sub [0, 1] (hk12 l1 M11) rfl
      · refine K_aload_n (q := 88) 0 dX12_makes_87 rfl rfl rfl ?_
        refine K_getR (q := 91) (ci := 7) (a2 := 209) 9 dX12_makes_88 fRX12_35 rfl rfl (by decide) rfl rfl ?_
        refine K_aload_n (q := 92) 0 dX12_makes_91 rfl rfl rfl ?_
        refine K_getI (q := 95) (ci := 7) 17 dX12_makes_92 fRX12_283 rfl rfl rfl (fun v12 => ?_)
        refine K_iconst (q := 96) (v := nI 1) dX12_makes_95 rfl rfl ?_
        refine K_isub (q := 97) dX12_makes_96 rfl ?_
        refine K_iald (q := 98) dX12_makes_97 rfl (fun v13 => ?_)
        refine K_iconst (q := 99) (v := nI 1) dX12_makes_98 rfl rfl ?_
        refine K_iadd (q := 100) dX12_makes_99 rfl ?_
        refine K_istore_n (q := 101) (ll' := [(1, .inl (v13 + (nI 1))), (0, .inr (17, 0, 200))]) dX12_makes_100 rfl (by decide) rfl rfl ?_
        refine J_goto (tgt := 12) dX12_makes_101 rfl ?_
        exact J_sub [1, 0] (hk12 (v13 + (nI 1)) M7) rfl
def xX12_makes_12   : Nat → Int32 → j_M → Option (Int32 × j_M)
  | 0, _, _ => none
  | n + 1, l1, M => oli (M 200 16) fun v1 => (if l1 < v1 then xX12_makes_27 (xX12_makes_12  n) l1 M else oli (M 200 17) fun v2 => (if v2 ≤ (0 : Int32) then some ((nI 1), M) else xX12_makes_27 (xX12_makes_12  n) l1 M))
set_option maxRecDepth 20000 in
set_option maxHeartbeats 2000000 in
theorem tX12_makes_12    : ∀ (n : Nat) (l1 : Int32) (M : j_M), J (ρ := Int32 × j_M) yX12_makes cX12_makes 3 (some .boolean) 0 0 j_ei 12 [(0, .inr (17, 0, 200)), (1, .inl (l1))] [] M (xX12_makes_12  n l1 M) := by
  intro n
  induction n with
  | zero => intros; exact J_none
  | succ n ih =>
    intro l1 M
    rw [xX12_makes_12.eq_2]
    refine K_iload_n (q := 13) 1 dX12_makes_12 rfl rfl rfl ?_
    refine K_aload_n (q := 14) 0 dX12_makes_13 rfl rfl rfl ?_
    refine K_getI (q := 17) (ci := 7) 16 dX12_makes_14 fRX12_280 rfl rfl rfl (fun v1 => ?_)
    refine K_icmp_lt (q := 20) (tgt := 27) dX12_makes_17 rfl ?_ rfl ?_
    · exact J_sub [0, 1] (tX12_makes_27 (xX12_makes_12  n) ih l1 M) rfl
    · refine K_aload_n (q := 21) 0 dX12_makes_20 rfl rfl rfl ?_
      refine K_getI (q := 24) (ci := 7) 17 dX12_makes_21 fRX12_283 rfl rfl rfl (fun v2 => ?_)
      refine K_if_le (q := 27) (tgt := 248) dX12_makes_24 rfl ?_ rfl ?_
      · refine K_iconst (q := 249) (v := nI 1) dX12_makes_248 rfl rfl ?_
        exact J_zret dX12_makes_249 (by decide)
      · exact J_sub [0, 1] (tX12_makes_27 (xX12_makes_12  n) ih l1 M) rfl
def xX12_makes   (M : j_M) : Option (Int32 × j_M) := oml (mw M 200 18 (nI 0)) fun M1 => oml (mw M1 200 17 (nI 0)) fun M2 => xX12_makes_12 fu (nI 0) M2
set_option maxRecDepth 20000 in
set_option maxHeartbeats 2000000 in
theorem tX12_makes   (M : j_M) : J (ρ := Int32 × j_M) yX12_makes cX12_makes 3 (some .boolean) 0 0 j_ei 0 [(0, .inr (17, 0, 200))] [] M (xX12_makes   M) := by
  unfold xX12_makes
  refine K_aload_n (q := 1) 0 dX12_makes_0 rfl rfl rfl ?_
  refine K_iconst (q := 2) (v := nI 0) dX12_makes_1 rfl rfl ?_
  refine K_putI (q := 5) (ci := 7) 18 dX12_makes_2 fRX12_301 fp_7_18 rfl rfl (by decide) rfl (fun M1 => ?_)
  refine K_aload_n (q := 6) 0 dX12_makes_5 rfl rfl rfl ?_
  refine K_iconst (q := 7) (v := nI 0) dX12_makes_6 rfl rfl ?_
  refine K_putI (q := 10) (ci := 7) 17 dX12_makes_7 fRX12_283 fp_7_17 rfl rfl (by decide) rfl (fun M2 => ?_)
  refine K_iconst (q := 11) (v := nI 0) dX12_makes_10 rfl rfl ?_
  refine K_istore_n (q := 12) (ll' := [(1, .inl ((nI 0))), (0, .inr (17, 0, 200))]) dX12_makes_11 rfl (by decide) rfl rfl ?_
  exact J_sub [1, 0] (tX12_makes_12 fu (nI 0) M2) rfl
theorem dX12_planned_0 : decode cX12_planned 0 = .ok (.aload_n 0, 1) := by decide +kernel
theorem dX12_planned_1 : decode cX12_planned 1 = .ok (.iconst 0, 1) := by decide +kernel
theorem dX12_planned_2 : decode cX12_planned 2 = .ok (.putfield 197, 3) := by decide +kernel
theorem dX12_planned_5 : decode cX12_planned 5 = .ok (.iload_n 1, 1) := by decide +kernel
theorem dX12_planned_6 : decode cX12_planned 6 = .ok (.ifCond .ne 21, 3) := by decide +kernel
theorem dX12_planned_9 : decode cX12_planned 9 = .ok (.aload_n 0, 1) := by decide +kernel
theorem dX12_planned_10 : decode cX12_planned 10 = .ok (.aload_n 0, 1) := by decide +kernel
theorem dX12_planned_11 : decode cX12_planned 11 = .ok (.getfield 268, 3) := by decide +kernel
theorem dX12_planned_14 : decode cX12_planned 14 = .ok (.putfield 310, 3) := by decide +kernel
theorem dX12_planned_17 : decode cX12_planned 17 = .ok (.aload_n 0, 1) := by decide +kernel
theorem dX12_planned_18 : decode cX12_planned 18 = .ok (.aload_n 0, 1) := by decide +kernel
theorem dX12_planned_19 : decode cX12_planned 19 = .ok (.getfield 271, 3) := by decide +kernel
theorem dX12_planned_22 : decode cX12_planned 22 = .ok (.putfield 41, 3) := by decide +kernel
theorem dX12_planned_25 : decode cX12_planned 25 = .ok (.iconst (-1), 1) := by decide +kernel
theorem dX12_planned_26 : decode cX12_planned 26 = .ok (.ireturn, 1) := by decide +kernel
theorem dX12_planned_27 : decode cX12_planned 27 = .ok (.iconst 0, 1) := by decide +kernel
theorem dX12_planned_28 : decode cX12_planned 28 = .ok (.istore_n 2, 1) := by decide +kernel
theorem dX12_planned_29 : decode cX12_planned 29 = .ok (.iload_n 2, 1) := by decide +kernel
theorem dX12_planned_30 : decode cX12_planned 30 = .ok (.iconst 4, 1) := by decide +kernel
theorem dX12_planned_31 : decode cX12_planned 31 = .ok (.aload_n 0, 1) := by decide +kernel
theorem dX12_planned_32 : decode cX12_planned 32 = .ok (.getfield 280, 3) := by decide +kernel
theorem dX12_planned_35 : decode cX12_planned 35 = .ok (.imul, 1) := by decide +kernel
theorem dX12_planned_36 : decode cX12_planned 36 = .ok (.if_icmp .ge 25, 3) := by decide +kernel
theorem dX12_planned_39 : decode cX12_planned 39 = .ok (.aload_n 0, 1) := by decide +kernel
theorem dX12_planned_40 : decode cX12_planned 40 = .ok (.getfield 9, 3) := by decide +kernel
theorem dX12_planned_43 : decode cX12_planned 43 = .ok (.sipush 7364, 3) := by decide +kernel
theorem dX12_planned_46 : decode cX12_planned 46 = .ok (.iload_n 2, 1) := by decide +kernel
theorem dX12_planned_47 : decode cX12_planned 47 = .ok (.iadd, 1) := by decide +kernel
theorem dX12_planned_48 : decode cX12_planned 48 = .ok (.aload_n 0, 1) := by decide +kernel
theorem dX12_planned_49 : decode cX12_planned 49 = .ok (.getfield 26, 3) := by decide +kernel
theorem dX12_planned_52 : decode cX12_planned 52 = .ok (.iload_n 2, 1) := by decide +kernel
theorem dX12_planned_53 : decode cX12_planned 53 = .ok (.iaload, 1) := by decide +kernel
theorem dX12_planned_54 : decode cX12_planned 54 = .ok (.iastore, 1) := by decide +kernel
theorem dX12_planned_55 : decode cX12_planned 55 = .ok (.iinc 2 1, 3) := by decide +kernel
theorem dX12_planned_58 : decode cX12_planned 58 = .ok (.goto (-29), 3) := by decide +kernel
theorem dX12_planned_61 : decode cX12_planned 61 = .ok (.aload_n 0, 1) := by decide +kernel
theorem dX12_planned_62 : decode cX12_planned 62 = .ok (.getfield 9, 3) := by decide +kernel
theorem dX12_planned_65 : decode cX12_planned 65 = .ok (.sipush 7362, 3) := by decide +kernel
theorem dX12_planned_68 : decode cX12_planned 68 = .ok (.aload_n 0, 1) := by decide +kernel
theorem dX12_planned_69 : decode cX12_planned 69 = .ok (.getfield 280, 3) := by decide +kernel
theorem dX12_planned_72 : decode cX12_planned 72 = .ok (.iastore, 1) := by decide +kernel
theorem dX12_planned_73 : decode cX12_planned 73 = .ok (.aload_n 0, 1) := by decide +kernel
theorem dX12_planned_74 : decode cX12_planned 74 = .ok (.getfield 9, 3) := by decide +kernel
theorem dX12_planned_77 : decode cX12_planned 77 = .ok (.sipush 7363, 3) := by decide +kernel
theorem dX12_planned_80 : decode cX12_planned 80 = .ok (.iconst 0, 1) := by decide +kernel
theorem dX12_planned_81 : decode cX12_planned 81 = .ok (.iastore, 1) := by decide +kernel
theorem dX12_planned_82 : decode cX12_planned 82 = .ok (.aload_n 0, 1) := by decide +kernel
theorem dX12_planned_83 : decode cX12_planned 83 = .ok (.getfield 280, 3) := by decide +kernel
theorem dX12_planned_86 : decode cX12_planned 86 = .ok (.ireturn, 1) := by decide +kernel
def xX12_planned_29   : Nat → Int32 → j_M → Option (Int32 × j_M)
  | 0, _, _ => none
  | n + 1, l2, M => oli (M 200 16) fun v1 => (if ((nI 4) * v1) ≤ l2 then oli (M 200 16) fun v2 => gd (nI 7362) 7460 (oml (mw M 201 (ix (nI 7362)) v2) fun M3 => gd (nI 7363) 7460 (oml (mw M3 201 (ix (nI 7363)) (nI 0)) fun M4 => oli (M4 200 16) fun v5 => some (v5, M4))) else gd l2 1600 (oli (M 206 (ix l2)) fun v6 => gd ((nI 7364) + l2) 7460 (oml (mw M 201 (ix ((nI 7364) + l2)) v6) fun M7 => xX12_planned_29  n (l2 + (nI 1)) M7)))
set_option maxRecDepth 20000 in
set_option maxHeartbeats 2000000 in
theorem tX12_planned_29    : ∀ (n : Nat) (l2 : Int32) (M : j_M), J (ρ := Int32 × j_M) yX12_planned cX12_planned 3 (some .int) 0 0 j_ei 29 [(0, .inr (17, 0, 200)), (2, .inl (l2))] [] M (xX12_planned_29  n l2 M) := by
  intro n
  induction n with
  | zero => intros; exact J_none
  | succ n ih =>
    intro l2 M
    rw [xX12_planned_29.eq_2]
    refine K_iload_n (q := 30) 1 dX12_planned_29 rfl rfl rfl ?_
    refine K_iconst (q := 31) (v := nI 4) dX12_planned_30 rfl rfl ?_
    refine K_aload_n (q := 32) 0 dX12_planned_31 rfl rfl rfl ?_
    refine K_getI (q := 35) (ci := 7) 16 dX12_planned_32 fRX12_280 rfl rfl rfl (fun v1 => ?_)
    refine K_imul (q := 36) dX12_planned_35 rfl ?_
    refine K_icmp_ge (q := 39) (tgt := 61) dX12_planned_36 rfl ?_ rfl ?_
    · refine K_aload_n (q := 62) 0 dX12_planned_61 rfl rfl rfl ?_
      refine K_getR (q := 65) (ci := 7) (a2 := 201) 0 dX12_planned_62 fRX12_9 rfl rfl (by decide) rfl rfl ?_
      refine K_sipush (q := 68) (v := nI 7362) dX12_planned_65 rfl rfl ?_
      refine K_aload_n (q := 69) 0 dX12_planned_68 rfl rfl rfl ?_
      refine K_getI (q := 72) (ci := 7) 16 dX12_planned_69 fRX12_280 rfl rfl rfl (fun v2 => ?_)
      refine K_iast (q := 73) dX12_planned_72 rfl (fun M3 => ?_)
      refine K_aload_n (q := 74) 0 dX12_planned_73 rfl rfl rfl ?_
      refine K_getR (q := 77) (ci := 7) (a2 := 201) 0 dX12_planned_74 fRX12_9 rfl rfl (by decide) rfl rfl ?_
      refine K_sipush (q := 80) (v := nI 7363) dX12_planned_77 rfl rfl ?_
      refine K_iconst (q := 81) (v := nI 0) dX12_planned_80 rfl rfl ?_
      refine K_iast (q := 82) dX12_planned_81 rfl (fun M4 => ?_)
      refine K_aload_n (q := 83) 0 dX12_planned_82 rfl rfl rfl ?_
      refine K_getI (q := 86) (ci := 7) 16 dX12_planned_83 fRX12_280 rfl rfl rfl (fun v5 => ?_)
      exact J_iret dX12_planned_86
    · refine K_aload_n (q := 40) 0 dX12_planned_39 rfl rfl rfl ?_
      refine K_getR (q := 43) (ci := 7) (a2 := 201) 0 dX12_planned_40 fRX12_9 rfl rfl (by decide) rfl rfl ?_
      refine K_sipush (q := 46) (v := nI 7364) dX12_planned_43 rfl rfl ?_
      refine K_iload_n (q := 47) 1 dX12_planned_46 rfl rfl rfl ?_
      refine K_iadd (q := 48) dX12_planned_47 rfl ?_
      refine K_aload_n (q := 49) 0 dX12_planned_48 rfl rfl rfl ?_
      refine K_getR (q := 52) (ci := 7) (a2 := 206) 6 dX12_planned_49 fRX12_26 rfl rfl (by decide) rfl rfl ?_
      refine K_iload_n (q := 53) 1 dX12_planned_52 rfl rfl rfl ?_
      refine K_iald (q := 54) dX12_planned_53 rfl (fun v6 => ?_)
      refine K_iast (q := 55) dX12_planned_54 rfl (fun M7 => ?_)
      refine K_iinc (q := 58) (v := l2 + (nI 1)) (ll' := [(2, .inl (l2 + (nI 1))), (0, .inr (17, 0, 200))]) 1 dX12_planned_55 rfl rfl (by decide) rfl rfl ?_
      refine J_goto (tgt := 29) dX12_planned_58 rfl ?_
      exact J_sub [1, 0] (ih (l2 + (nI 1)) M7) rfl
def xX12_planned  (l1 : Int32) (M : j_M) : Option (Int32 × j_M) := oml (mw M 200 11 (nI 0)) fun M1 => (if l1 = (0 : Int32) then oli (M1 200 20) fun v2 => oml (mw M1 200 19 v2) fun M3 => oli (M3 200 21) fun v4 => oml (mw M3 200 22 v4) fun M5 => some ((-1 : Int32), M5) else xX12_planned_29 fu (nI 0) M1)
set_option maxRecDepth 20000 in
set_option maxHeartbeats 2000000 in
theorem tX12_planned  (l1 : Int32) (M : j_M) : J (ρ := Int32 × j_M) yX12_planned cX12_planned 3 (some .int) 0 0 j_ei 0 [(0, .inr (17, 0, 200)), (1, .inl (l1))] [] M (xX12_planned  l1 M) := by
  unfold xX12_planned
  refine K_aload_n (q := 1) 0 dX12_planned_0 rfl rfl rfl ?_
  refine K_iconst (q := 2) (v := nI 0) dX12_planned_1 rfl rfl ?_
  refine K_putI (q := 5) (ci := 7) 11 dX12_planned_2 fRX12_197 fp_7_11 rfl rfl (by decide) rfl (fun M1 => ?_)
  refine K_iload_n (q := 6) 1 dX12_planned_5 rfl rfl rfl ?_
  refine K_if_ne (q := 9) (tgt := 27) dX12_planned_6 rfl ?_ rfl ?_
  · refine K_iconst (q := 28) (v := nI 0) dX12_planned_27 rfl rfl ?_
    refine K_istore_n (q := 29) (ll' := [(2, .inl ((nI 0))), (0, .inr (17, 0, 200)), (1, .inl (l1))]) dX12_planned_28 rfl (by decide) rfl rfl ?_
    exact J_sub [1, 0] (tX12_planned_29 fu (nI 0) M1) rfl
  · refine K_aload_n (q := 10) 0 dX12_planned_9 rfl rfl rfl ?_
    refine K_aload_n (q := 11) 0 dX12_planned_10 rfl rfl rfl ?_
    refine K_getI (q := 14) (ci := 7) 20 dX12_planned_11 fRX12_268 rfl rfl rfl (fun v2 => ?_)
    refine K_putI (q := 17) (ci := 7) 19 dX12_planned_14 fRX12_310 fp_7_19 rfl rfl (by decide) rfl (fun M3 => ?_)
    refine K_aload_n (q := 18) 0 dX12_planned_17 rfl rfl rfl ?_
    refine K_aload_n (q := 19) 0 dX12_planned_18 rfl rfl rfl ?_
    refine K_getI (q := 22) (ci := 7) 21 dX12_planned_19 fRX12_271 rfl rfl rfl (fun v4 => ?_)
    refine K_putI (q := 25) (ci := 7) 22 dX12_planned_22 fRX12_41 fp_7_22 rfl rfl (by decide) rfl (fun M5 => ?_)
    refine K_iconst (q := 26) (v := -1) dX12_planned_25 rfl rfl ?_
    exact J_iret dX12_planned_26
theorem dX12_bad_0 : decode cX12_bad 0 = .ok (.aload_n 0, 1) := by decide +kernel
theorem dX12_bad_1 : decode cX12_bad 1 = .ok (.iload_n 1, 1) := by decide +kernel
theorem dX12_bad_2 : decode cX12_bad 2 = .ok (.putfield 268, 3) := by decide +kernel
theorem dX12_bad_5 : decode cX12_bad 5 = .ok (.aload_n 0, 1) := by decide +kernel
theorem dX12_bad_6 : decode cX12_bad 6 = .ok (.aload_n 0, 1) := by decide +kernel
theorem dX12_bad_7 : decode cX12_bad 7 = .ok (.getfield 206, 3) := by decide +kernel
theorem dX12_bad_10 : decode cX12_bad 10 = .ok (.putfield 271, 3) := by decide +kernel
theorem dX12_bad_13 : decode cX12_bad 13 = .ok (.iconst 0, 1) := by decide +kernel
theorem dX12_bad_14 : decode cX12_bad 14 = .ok (.ireturn, 1) := by decide +kernel
def xX12_bad  (l1 : Int32) (M : j_M) : Option (Int32 × j_M) := oml (mw M 200 20 l1) fun M1 => oli (M1 200 14) fun v2 => oml (mw M1 200 21 v2) fun M3 => some ((nI 0), M3)
set_option maxRecDepth 20000 in
set_option maxHeartbeats 2000000 in
theorem tX12_bad  (l1 : Int32) (M : j_M) : J (ρ := Int32 × j_M) yX12_bad cX12_bad 2 (some .boolean) 0 0 j_ei 0 [(0, .inr (17, 0, 200)), (1, .inl (l1))] [] M (xX12_bad  l1 M) := by
  unfold xX12_bad
  refine K_aload_n (q := 1) 0 dX12_bad_0 rfl rfl rfl ?_
  refine K_iload_n (q := 2) 1 dX12_bad_1 rfl rfl rfl ?_
  refine K_putI (q := 5) (ci := 7) 20 dX12_bad_2 fRX12_268 fp_7_20 rfl rfl (by decide) rfl (fun M1 => ?_)
  refine K_aload_n (q := 6) 0 dX12_bad_5 rfl rfl rfl ?_
  refine K_aload_n (q := 7) 0 dX12_bad_6 rfl rfl rfl ?_
  refine K_getI (q := 10) (ci := 7) 14 dX12_bad_7 fRX12_206 rfl rfl rfl (fun v2 => ?_)
  refine K_putI (q := 13) (ci := 7) 21 dX12_bad_10 fRX12_271 fp_7_21 rfl rfl (by decide) rfl (fun M3 => ?_)
  refine K_iconst (q := 14) (v := nI 0) dX12_bad_13 rfl rfl ?_
  exact J_zret dX12_bad_14 (by decide)
theorem dX12_isDigit_0 : decode cX12_isDigit 0 = .ok (.aload_n 0, 1) := by decide +kernel
theorem dX12_isDigit_1 : decode cX12_isDigit 1 = .ok (.getfield 203, 3) := by decide +kernel
theorem dX12_isDigit_4 : decode cX12_isDigit 4 = .ok (.aload_n 0, 1) := by decide +kernel
theorem dX12_isDigit_5 : decode cX12_isDigit 5 = .ok (.getfield 197, 3) := by decide +kernel
theorem dX12_isDigit_8 : decode cX12_isDigit 8 = .ok (.if_icmp .ge 26, 3) := by decide +kernel
theorem dX12_isDigit_11 : decode cX12_isDigit 11 = .ok (.aload_n 0, 1) := by decide +kernel
theorem dX12_isDigit_12 : decode cX12_isDigit 12 = .ok (.getfield 22, 3) := by decide +kernel
theorem dX12_isDigit_15 : decode cX12_isDigit 15 = .ok (.aload_n 0, 1) := by decide +kernel
theorem dX12_isDigit_16 : decode cX12_isDigit 16 = .ok (.getfield 203, 3) := by decide +kernel
theorem dX12_isDigit_19 : decode cX12_isDigit 19 = .ok (.baload, 1) := by decide +kernel
theorem dX12_isDigit_20 : decode cX12_isDigit 20 = .ok (.bipush 48, 2) := by decide +kernel
theorem dX12_isDigit_22 : decode cX12_isDigit 22 = .ok (.bipush 57, 2) := by decide +kernel
theorem dX12_isDigit_24 : decode cX12_isDigit 24 = .ok (.invokestatic 65, 3) := by decide +kernel
theorem dX12_isDigit_27 : decode cX12_isDigit 27 = .ok (.ifCond .eq 7, 3) := by decide +kernel
theorem dX12_isDigit_30 : decode cX12_isDigit 30 = .ok (.iconst 1, 1) := by decide +kernel
theorem dX12_isDigit_31 : decode cX12_isDigit 31 = .ok (.goto 4, 3) := by decide +kernel
theorem dX12_isDigit_34 : decode cX12_isDigit 34 = .ok (.iconst 0, 1) := by decide +kernel
theorem dX12_isDigit_35 : decode cX12_isDigit 35 = .ok (.ireturn, 1) := by decide +kernel
def xX12_isDigit   (M : j_M) : Option (Int32 × j_M) := oli (M 200 12) fun v1 => oli (M 200 11) fun v2 => (if v2 ≤ v1 then some ((nI 0), M) else oli (M 200 12) fun v3 => gd v3 400 (oli (M 205 (ix v3)) fun v4 => obi (xX12_isIn v4 (nI 48) (nI 57) M) fun v6 M5 => (if v6 = (0 : Int32) then some ((nI 0), M5) else some ((nI 1), M5))))
set_option maxRecDepth 20000 in
set_option maxHeartbeats 2000000 in
theorem tX12_isDigit   (M : j_M) : J (ρ := Int32 × j_M) yX12_isDigit cX12_isDigit 1 (some .boolean) 1 22 j_ei 0 [(0, .inr (17, 0, 200))] [] M (xX12_isDigit   M) := by
  unfold xX12_isDigit
  refine K_aload_n (q := 1) 0 dX12_isDigit_0 rfl rfl rfl ?_
  refine K_getI (q := 4) (ci := 7) 12 dX12_isDigit_1 fRX12_203 rfl rfl rfl (fun v1 => ?_)
  refine K_aload_n (q := 5) 0 dX12_isDigit_4 rfl rfl rfl ?_
  refine K_getI (q := 8) (ci := 7) 11 dX12_isDigit_5 fRX12_197 rfl rfl rfl (fun v2 => ?_)
  refine K_icmp_ge (q := 11) (tgt := 34) dX12_isDigit_8 rfl ?_ rfl ?_
  · refine K_iconst (q := 35) (v := nI 0) dX12_isDigit_34 rfl rfl ?_
    exact J_zret dX12_isDigit_35 (by decide)
  · refine K_aload_n (q := 12) 0 dX12_isDigit_11 rfl rfl rfl ?_
    refine K_getR (q := 15) (ci := 7) (a2 := 205) 5 dX12_isDigit_12 fRX12_22 rfl rfl (by decide) rfl rfl ?_
    refine K_aload_n (q := 16) 0 dX12_isDigit_15 rfl rfl rfl ?_
    refine K_getI (q := 19) (ci := 7) 12 dX12_isDigit_16 fRX12_203 rfl rfl rfl (fun v3 => ?_)
    refine K_bald (q := 20) dX12_isDigit_19 rfl (fun v4 => ?_)
    refine K_bipush (q := 22) (v := nI 48) dX12_isDigit_20 rfl rfl ?_
    refine K_bipush (q := 24) (v := nI 57) dX12_isDigit_22 rfl rfl ?_
    refine K_csi (q := 27) [.inl (v4), .inl ((nI 48)), .inl ((nI 57))] dX12_isDigit_24 cb_X12_isIn cvRX12_65 rfl (Nat.le_of_ble_eq_true rfl) ⟨by decide, by decide⟩ (Nat.le_of_ble_eq_true rfl) rfl (tX12_isIn v4 (nI 48) (nI 57) M) rfl (fun v6 M5 => ?_)
    refine K_if_eq (q := 30) (tgt := 34) dX12_isDigit_27 rfl ?_ rfl ?_
    · refine K_iconst (q := 35) (v := nI 0) dX12_isDigit_34 rfl rfl ?_
      exact J_zret dX12_isDigit_35 (by decide)
    · refine K_iconst (q := 31) (v := nI 1) dX12_isDigit_30 rfl rfl ?_
      refine J_goto (tgt := 35) dX12_isDigit_31 rfl ?_
      exact J_zret dX12_isDigit_35 (by decide)
theorem dX12_isLetter_0 : decode cX12_isLetter 0 = .ok (.aload_n 0, 1) := by decide +kernel
theorem dX12_isLetter_1 : decode cX12_isLetter 1 = .ok (.getfield 203, 3) := by decide +kernel
theorem dX12_isLetter_4 : decode cX12_isLetter 4 = .ok (.aload_n 0, 1) := by decide +kernel
theorem dX12_isLetter_5 : decode cX12_isLetter 5 = .ok (.getfield 197, 3) := by decide +kernel
theorem dX12_isLetter_8 : decode cX12_isLetter 8 = .ok (.if_icmp .ge 45, 3) := by decide +kernel
theorem dX12_isLetter_11 : decode cX12_isLetter 11 = .ok (.aload_n 0, 1) := by decide +kernel
theorem dX12_isLetter_12 : decode cX12_isLetter 12 = .ok (.getfield 22, 3) := by decide +kernel
theorem dX12_isLetter_15 : decode cX12_isLetter 15 = .ok (.aload_n 0, 1) := by decide +kernel
theorem dX12_isLetter_16 : decode cX12_isLetter 16 = .ok (.getfield 203, 3) := by decide +kernel
theorem dX12_isLetter_19 : decode cX12_isLetter 19 = .ok (.baload, 1) := by decide +kernel
theorem dX12_isLetter_20 : decode cX12_isLetter 20 = .ok (.bipush 97, 2) := by decide +kernel
theorem dX12_isLetter_22 : decode cX12_isLetter 22 = .ok (.bipush 122, 2) := by decide +kernel
theorem dX12_isLetter_24 : decode cX12_isLetter 24 = .ok (.invokestatic 65, 3) := by decide +kernel
theorem dX12_isLetter_27 : decode cX12_isLetter 27 = .ok (.ifCond .ne 22, 3) := by decide +kernel
theorem dX12_isLetter_30 : decode cX12_isLetter 30 = .ok (.aload_n 0, 1) := by decide +kernel
theorem dX12_isLetter_31 : decode cX12_isLetter 31 = .ok (.getfield 22, 3) := by decide +kernel
theorem dX12_isLetter_34 : decode cX12_isLetter 34 = .ok (.aload_n 0, 1) := by decide +kernel
theorem dX12_isLetter_35 : decode cX12_isLetter 35 = .ok (.getfield 203, 3) := by decide +kernel
theorem dX12_isLetter_38 : decode cX12_isLetter 38 = .ok (.baload, 1) := by decide +kernel
theorem dX12_isLetter_39 : decode cX12_isLetter 39 = .ok (.bipush 65, 2) := by decide +kernel
theorem dX12_isLetter_41 : decode cX12_isLetter 41 = .ok (.bipush 90, 2) := by decide +kernel
theorem dX12_isLetter_43 : decode cX12_isLetter 43 = .ok (.invokestatic 65, 3) := by decide +kernel
theorem dX12_isLetter_46 : decode cX12_isLetter 46 = .ok (.ifCond .eq 7, 3) := by decide +kernel
theorem dX12_isLetter_49 : decode cX12_isLetter 49 = .ok (.iconst 1, 1) := by decide +kernel
theorem dX12_isLetter_50 : decode cX12_isLetter 50 = .ok (.goto 4, 3) := by decide +kernel
theorem dX12_isLetter_53 : decode cX12_isLetter 53 = .ok (.iconst 0, 1) := by decide +kernel
theorem dX12_isLetter_54 : decode cX12_isLetter 54 = .ok (.ireturn, 1) := by decide +kernel
def xX12_isLetter   (M : j_M) : Option (Int32 × j_M) := oli (M 200 12) fun v1 => oli (M 200 11) fun v2 => (if v2 ≤ v1 then some ((nI 0), M) else oli (M 200 12) fun v3 => gd v3 400 (oli (M 205 (ix v3)) fun v4 => obi (xX12_isIn v4 (nI 97) (nI 122) M) fun v6 M5 => (if v6 = (0 : Int32) then oli (M5 200 12) fun v7 => gd v7 400 (oli (M5 205 (ix v7)) fun v8 => obi (xX12_isIn v8 (nI 65) (nI 90) M5) fun v10 M9 => (if v10 = (0 : Int32) then some ((nI 0), M9) else some ((nI 1), M9))) else some ((nI 1), M5))))
set_option maxRecDepth 20000 in
set_option maxHeartbeats 2000000 in
theorem tX12_isLetter   (M : j_M) : J (ρ := Int32 × j_M) yX12_isLetter cX12_isLetter 1 (some .boolean) 1 22 j_ei 0 [(0, .inr (17, 0, 200))] [] M (xX12_isLetter   M) := by
  unfold xX12_isLetter
  refine K_aload_n (q := 1) 0 dX12_isLetter_0 rfl rfl rfl ?_
  refine K_getI (q := 4) (ci := 7) 12 dX12_isLetter_1 fRX12_203 rfl rfl rfl (fun v1 => ?_)
  refine K_aload_n (q := 5) 0 dX12_isLetter_4 rfl rfl rfl ?_
  refine K_getI (q := 8) (ci := 7) 11 dX12_isLetter_5 fRX12_197 rfl rfl rfl (fun v2 => ?_)
  refine K_icmp_ge (q := 11) (tgt := 53) dX12_isLetter_8 rfl ?_ rfl ?_
  · refine K_iconst (q := 54) (v := nI 0) dX12_isLetter_53 rfl rfl ?_
    exact J_zret dX12_isLetter_54 (by decide)
  · refine K_aload_n (q := 12) 0 dX12_isLetter_11 rfl rfl rfl ?_
    refine K_getR (q := 15) (ci := 7) (a2 := 205) 5 dX12_isLetter_12 fRX12_22 rfl rfl (by decide) rfl rfl ?_
    refine K_aload_n (q := 16) 0 dX12_isLetter_15 rfl rfl rfl ?_
    refine K_getI (q := 19) (ci := 7) 12 dX12_isLetter_16 fRX12_203 rfl rfl rfl (fun v3 => ?_)
    refine K_bald (q := 20) dX12_isLetter_19 rfl (fun v4 => ?_)
    refine K_bipush (q := 22) (v := nI 97) dX12_isLetter_20 rfl rfl ?_
    refine K_bipush (q := 24) (v := nI 122) dX12_isLetter_22 rfl rfl ?_
    refine K_csi (q := 27) [.inl (v4), .inl ((nI 97)), .inl ((nI 122))] dX12_isLetter_24 cb_X12_isIn cvRX12_65 rfl (Nat.le_of_ble_eq_true rfl) ⟨by decide, by decide⟩ (Nat.le_of_ble_eq_true rfl) rfl (tX12_isIn v4 (nI 97) (nI 122) M) rfl (fun v6 M5 => ?_)
    refine K_if_ne (q := 30) (tgt := 49) dX12_isLetter_27 rfl ?_ rfl ?_
    · refine K_iconst (q := 50) (v := nI 1) dX12_isLetter_49 rfl rfl ?_
      refine J_goto (tgt := 54) dX12_isLetter_50 rfl ?_
      exact J_zret dX12_isLetter_54 (by decide)
    · refine K_aload_n (q := 31) 0 dX12_isLetter_30 rfl rfl rfl ?_
      refine K_getR (q := 34) (ci := 7) (a2 := 205) 5 dX12_isLetter_31 fRX12_22 rfl rfl (by decide) rfl rfl ?_
      refine K_aload_n (q := 35) 0 dX12_isLetter_34 rfl rfl rfl ?_
      refine K_getI (q := 38) (ci := 7) 12 dX12_isLetter_35 fRX12_203 rfl rfl rfl (fun v7 => ?_)
      refine K_bald (q := 39) dX12_isLetter_38 rfl (fun v8 => ?_)
      refine K_bipush (q := 41) (v := nI 65) dX12_isLetter_39 rfl rfl ?_
      refine K_bipush (q := 43) (v := nI 90) dX12_isLetter_41 rfl rfl ?_
      refine K_csi (q := 46) [.inl (v8), .inl ((nI 65)), .inl ((nI 90))] dX12_isLetter_43 cb_X12_isIn cvRX12_65 rfl (Nat.le_of_ble_eq_true rfl) ⟨by decide, by decide⟩ (Nat.le_of_ble_eq_true rfl) rfl (tX12_isIn v8 (nI 65) (nI 90) M5) rfl (fun v10 M9 => ?_)
      refine K_if_eq (q := 49) (tgt := 53) dX12_isLetter_46 rfl ?_ rfl ?_
      · refine K_iconst (q := 54) (v := nI 0) dX12_isLetter_53 rfl rfl ?_
        exact J_zret dX12_isLetter_54 (by decide)
      · refine K_iconst (q := 50) (v := nI 1) dX12_isLetter_49 rfl rfl ?_
        refine J_goto (tgt := 54) dX12_isLetter_50 rfl ?_
        exact J_zret dX12_isLetter_54 (by decide)
theorem dX12_is_0 : decode cX12_is 0 = .ok (.aload_n 0, 1) := by decide +kernel
theorem dX12_is_1 : decode cX12_is 1 = .ok (.getfield 203, 3) := by decide +kernel
theorem dX12_is_4 : decode cX12_is 4 = .ok (.aload_n 0, 1) := by decide +kernel
theorem dX12_is_5 : decode cX12_is 5 = .ok (.getfield 206, 3) := by decide +kernel
theorem dX12_is_8 : decode cX12_is 8 = .ok (.isub, 1) := by decide +kernel
theorem dX12_is_9 : decode cX12_is 9 = .ok (.aload_n 1, 1) := by decide +kernel
theorem dX12_is_10 : decode cX12_is 10 = .ok (.invokevirtual 209, 3) := by decide +kernel
theorem dX12_is_13 : decode cX12_is 13 = .ok (.if_icmp .eq 5, 3) := by decide +kernel
theorem dX12_is_16 : decode cX12_is 16 = .ok (.iconst 0, 1) := by decide +kernel
theorem dX12_is_17 : decode cX12_is 17 = .ok (.ireturn, 1) := by decide +kernel
theorem dX12_is_18 : decode cX12_is 18 = .ok (.iconst 0, 1) := by decide +kernel
theorem dX12_is_19 : decode cX12_is 19 = .ok (.istore_n 2, 1) := by decide +kernel
theorem dX12_is_20 : decode cX12_is 20 = .ok (.iload_n 2, 1) := by decide +kernel
theorem dX12_is_21 : decode cX12_is 21 = .ok (.aload_n 1, 1) := by decide +kernel
theorem dX12_is_22 : decode cX12_is 22 = .ok (.invokevirtual 209, 3) := by decide +kernel
theorem dX12_is_25 : decode cX12_is 25 = .ok (.if_icmp .ge 30, 3) := by decide +kernel
theorem dX12_is_28 : decode cX12_is 28 = .ok (.aload_n 0, 1) := by decide +kernel
theorem dX12_is_29 : decode cX12_is 29 = .ok (.getfield 22, 3) := by decide +kernel
theorem dX12_is_32 : decode cX12_is 32 = .ok (.aload_n 0, 1) := by decide +kernel
theorem dX12_is_33 : decode cX12_is 33 = .ok (.getfield 206, 3) := by decide +kernel
theorem dX12_is_36 : decode cX12_is 36 = .ok (.iload_n 2, 1) := by decide +kernel
theorem dX12_is_37 : decode cX12_is 37 = .ok (.iadd, 1) := by decide +kernel
theorem dX12_is_38 : decode cX12_is 38 = .ok (.baload, 1) := by decide +kernel
theorem dX12_is_39 : decode cX12_is 39 = .ok (.aload_n 1, 1) := by decide +kernel
theorem dX12_is_40 : decode cX12_is 40 = .ok (.iload_n 2, 1) := by decide +kernel
theorem dX12_is_41 : decode cX12_is 41 = .ok (.invokevirtual 214, 3) := by decide +kernel
theorem dX12_is_44 : decode cX12_is 44 = .ok (.if_icmp .eq 5, 3) := by decide +kernel
theorem dX12_is_47 : decode cX12_is 47 = .ok (.iconst 0, 1) := by decide +kernel
theorem dX12_is_48 : decode cX12_is 48 = .ok (.ireturn, 1) := by decide +kernel
theorem dX12_is_49 : decode cX12_is 49 = .ok (.iinc 2 1, 3) := by decide +kernel
theorem dX12_is_52 : decode cX12_is 52 = .ok (.goto (-32), 3) := by decide +kernel
theorem dX12_is_55 : decode cX12_is 55 = .ok (.iconst 1, 1) := by decide +kernel
theorem dX12_is_56 : decode cX12_is 56 = .ok (.ireturn, 1) := by decide +kernel
def xX12_is_20  (u1 : Nat) : Nat → Int32 → j_M → Option (Int32 × j_M)
  | 0, _, _ => none
  | n + 1, l2, M => obi (xslen u1 M) fun v1 M2 => (if v1 ≤ l2 then some ((nI 1), M2) else oli (M2 200 14) fun v3 => gd (v3 + l2) 400 (oli (M2 205 (ix (v3 + l2))) fun v4 => obi (xsch u1 l2 M2) fun v5 M6 => (if v4 = v5 then xX12_is_20 u1 n (l2 + (nI 1)) M6 else some ((nI 0), M6))))
set_option maxRecDepth 20000 in
set_option maxHeartbeats 2000000 in
theorem tX12_is_20  (u1 : Nat)  : ∀ (n : Nat) (l2 : Int32) (M : j_M), J (ρ := Int32 × j_M) yX12_is cX12_is 3 (some .boolean) 4 120 j_ei 20 [(0, .inr (17, 0, 200)), (1, .inr (4, 0, u1)), (2, .inl (l2))] [] M (xX12_is_20 u1 n l2 M) := by
  intro n
  induction n with
  | zero => intros; exact J_none
  | succ n ih =>
    intro l2 M
    rw [xX12_is_20.eq_2]
    refine K_iload_n (q := 21) 2 dX12_is_20 rfl rfl rfl ?_
    refine K_aload_n (q := 22) 1 dX12_is_21 rfl rfl rfl ?_
    refine K_slen (q := 25) dX12_is_22 cvRX12_209 (Nat.le_of_ble_eq_true rfl) (by decide) (by decide) rfl (fun v1 M2 => ?_)
    refine K_icmp_ge (q := 28) (tgt := 55) dX12_is_25 rfl ?_ rfl ?_
    · refine K_iconst (q := 56) (v := nI 1) dX12_is_55 rfl rfl ?_
      exact J_zret dX12_is_56 (by decide)
    · refine K_aload_n (q := 29) 0 dX12_is_28 rfl rfl rfl ?_
      refine K_getR (q := 32) (ci := 7) (a2 := 205) 5 dX12_is_29 fRX12_22 rfl rfl (by decide) rfl rfl ?_
      refine K_aload_n (q := 33) 0 dX12_is_32 rfl rfl rfl ?_
      refine K_getI (q := 36) (ci := 7) 14 dX12_is_33 fRX12_206 rfl rfl rfl (fun v3 => ?_)
      refine K_iload_n (q := 37) 2 dX12_is_36 rfl rfl rfl ?_
      refine K_iadd (q := 38) dX12_is_37 rfl ?_
      refine K_bald (q := 39) dX12_is_38 rfl (fun v4 => ?_)
      refine K_aload_n (q := 40) 1 dX12_is_39 rfl rfl rfl ?_
      refine K_iload_n (q := 41) 2 dX12_is_40 rfl rfl rfl ?_
      refine K_scha (q := 44) dX12_is_41 cvRX12_214 (Nat.le_of_ble_eq_true rfl) (by decide) (by decide) rfl (fun v5 M6 => ?_)
      refine K_icmp_eq (q := 47) (tgt := 49) dX12_is_44 rfl ?_ rfl ?_
      · refine K_iinc (q := 52) (v := l2 + (nI 1)) (ll' := [(2, .inl (l2 + (nI 1))), (0, .inr (17, 0, 200)), (1, .inr (4, 0, u1))]) 2 dX12_is_49 rfl rfl (by decide) rfl rfl ?_
        refine J_goto (tgt := 20) dX12_is_52 rfl ?_
        exact J_sub [1, 2, 0] (ih (l2 + (nI 1)) M6) rfl
      · refine K_iconst (q := 48) (v := nI 0) dX12_is_47 rfl rfl ?_
        exact J_zret dX12_is_48 (by decide)
def xX12_is (u1 : Nat)  (M : j_M) : Option (Int32 × j_M) := oli (M 200 12) fun v1 => oli (M 200 14) fun v2 => obi (xslen u1 M) fun v3 M4 => (if v1 - v2 = v3 then xX12_is_20 u1 fu (nI 0) M4 else some ((nI 0), M4))
set_option maxRecDepth 20000 in
set_option maxHeartbeats 2000000 in
theorem tX12_is (u1 : Nat)  (M : j_M) : J (ρ := Int32 × j_M) yX12_is cX12_is 3 (some .boolean) 4 120 j_ei 0 [(0, .inr (17, 0, 200)), (1, .inr (4, 0, u1))] [] M (xX12_is u1  M) := by
  unfold xX12_is
  refine K_aload_n (q := 1) 0 dX12_is_0 rfl rfl rfl ?_
  refine K_getI (q := 4) (ci := 7) 12 dX12_is_1 fRX12_203 rfl rfl rfl (fun v1 => ?_)
  refine K_aload_n (q := 5) 0 dX12_is_4 rfl rfl rfl ?_
  refine K_getI (q := 8) (ci := 7) 14 dX12_is_5 fRX12_206 rfl rfl rfl (fun v2 => ?_)
  refine K_isub (q := 9) dX12_is_8 rfl ?_
  refine K_aload_n (q := 10) 1 dX12_is_9 rfl rfl rfl ?_
  refine K_slen (q := 13) dX12_is_10 cvRX12_209 (Nat.le_of_ble_eq_true rfl) (by decide) (by decide) rfl (fun v3 M4 => ?_)
  refine K_icmp_eq (q := 16) (tgt := 18) dX12_is_13 rfl ?_ rfl ?_
  · refine K_iconst (q := 19) (v := nI 0) dX12_is_18 rfl rfl ?_
    refine K_istore_n (q := 20) (ll' := [(2, .inl ((nI 0))), (0, .inr (17, 0, 200)), (1, .inr (4, 0, u1))]) dX12_is_19 rfl (by decide) rfl rfl ?_
    exact J_sub [1, 2, 0] (tX12_is_20 u1 fu (nI 0) M4) rfl
  · refine K_iconst (q := 17) (v := nI 0) dX12_is_16 rfl rfl ?_
    exact J_zret dX12_is_17 (by decide)
theorem dX12_planWord_0 : decode cX12_planWord 0 = .ok (.aload_n 0, 1) := by decide +kernel
theorem dX12_planWord_1 : decode cX12_planWord 1 = .ok (.ldc 218, 2) := by decide +kernel
theorem dX12_planWord_3 : decode cX12_planWord 3 = .ok (.invokevirtual 220, 3) := by decide +kernel
theorem dX12_planWord_6 : decode cX12_planWord 6 = .ok (.ifCond .eq 6, 3) := by decide +kernel
theorem dX12_planWord_9 : decode cX12_planWord 9 = .ok (.bipush 8, 2) := by decide +kernel
theorem dX12_planWord_11 : decode cX12_planWord 11 = .ok (.ireturn, 1) := by decide +kernel
theorem dX12_planWord_12 : decode cX12_planWord 12 = .ok (.aload_n 0, 1) := by decide +kernel
theorem dX12_planWord_13 : decode cX12_planWord 13 = .ok (.ldc 224, 2) := by decide +kernel
theorem dX12_planWord_15 : decode cX12_planWord 15 = .ok (.invokevirtual 220, 3) := by decide +kernel
theorem dX12_planWord_18 : decode cX12_planWord 18 = .ok (.ifCond .eq 6, 3) := by decide +kernel
theorem dX12_planWord_21 : decode cX12_planWord 21 = .ok (.bipush 9, 2) := by decide +kernel
theorem dX12_planWord_23 : decode cX12_planWord 23 = .ok (.ireturn, 1) := by decide +kernel
theorem dX12_planWord_24 : decode cX12_planWord 24 = .ok (.aload_n 0, 1) := by decide +kernel
theorem dX12_planWord_25 : decode cX12_planWord 25 = .ok (.ldc 226, 2) := by decide +kernel
theorem dX12_planWord_27 : decode cX12_planWord 27 = .ok (.invokevirtual 220, 3) := by decide +kernel
theorem dX12_planWord_30 : decode cX12_planWord 30 = .ok (.ifCond .eq 6, 3) := by decide +kernel
theorem dX12_planWord_33 : decode cX12_planWord 33 = .ok (.bipush 10, 2) := by decide +kernel
theorem dX12_planWord_35 : decode cX12_planWord 35 = .ok (.ireturn, 1) := by decide +kernel
theorem dX12_planWord_36 : decode cX12_planWord 36 = .ok (.aload_n 0, 1) := by decide +kernel
theorem dX12_planWord_37 : decode cX12_planWord 37 = .ok (.ldc 228, 2) := by decide +kernel
theorem dX12_planWord_39 : decode cX12_planWord 39 = .ok (.invokevirtual 220, 3) := by decide +kernel
theorem dX12_planWord_42 : decode cX12_planWord 42 = .ok (.ifCond .eq 6, 3) := by decide +kernel
theorem dX12_planWord_45 : decode cX12_planWord 45 = .ok (.bipush 11, 2) := by decide +kernel
theorem dX12_planWord_47 : decode cX12_planWord 47 = .ok (.ireturn, 1) := by decide +kernel
theorem dX12_planWord_48 : decode cX12_planWord 48 = .ok (.aload_n 0, 1) := by decide +kernel
theorem dX12_planWord_49 : decode cX12_planWord 49 = .ok (.ldc 230, 2) := by decide +kernel
theorem dX12_planWord_51 : decode cX12_planWord 51 = .ok (.invokevirtual 220, 3) := by decide +kernel
theorem dX12_planWord_54 : decode cX12_planWord 54 = .ok (.ifCond .eq 6, 3) := by decide +kernel
theorem dX12_planWord_57 : decode cX12_planWord 57 = .ok (.bipush 12, 2) := by decide +kernel
theorem dX12_planWord_59 : decode cX12_planWord 59 = .ok (.ireturn, 1) := by decide +kernel
theorem dX12_planWord_60 : decode cX12_planWord 60 = .ok (.aload_n 0, 1) := by decide +kernel
theorem dX12_planWord_61 : decode cX12_planWord 61 = .ok (.ldc 232, 2) := by decide +kernel
theorem dX12_planWord_63 : decode cX12_planWord 63 = .ok (.invokevirtual 220, 3) := by decide +kernel
theorem dX12_planWord_66 : decode cX12_planWord 66 = .ok (.ifCond .eq 6, 3) := by decide +kernel
theorem dX12_planWord_69 : decode cX12_planWord 69 = .ok (.bipush 13, 2) := by decide +kernel
theorem dX12_planWord_71 : decode cX12_planWord 71 = .ok (.ireturn, 1) := by decide +kernel
theorem dX12_planWord_72 : decode cX12_planWord 72 = .ok (.aload_n 0, 1) := by decide +kernel
theorem dX12_planWord_73 : decode cX12_planWord 73 = .ok (.ldc 234, 2) := by decide +kernel
theorem dX12_planWord_75 : decode cX12_planWord 75 = .ok (.invokevirtual 220, 3) := by decide +kernel
theorem dX12_planWord_78 : decode cX12_planWord 78 = .ok (.ifCond .eq 8, 3) := by decide +kernel
theorem dX12_planWord_81 : decode cX12_planWord 81 = .ok (.bipush 14, 2) := by decide +kernel
theorem dX12_planWord_83 : decode cX12_planWord 83 = .ok (.goto 4, 3) := by decide +kernel
theorem dX12_planWord_86 : decode cX12_planWord 86 = .ok (.iconst 1, 1) := by decide +kernel
theorem dX12_planWord_87 : decode cX12_planWord 87 = .ok (.ireturn, 1) := by decide +kernel
def xX12_planWord   (M : j_M) : Option (Int32 × j_M) := obi (xX12_is 321 M) fun v2 M1 => (if v2 = (0 : Int32) then obi (xX12_is 322 M1) fun v4 M3 => (if v4 = (0 : Int32) then obi (xX12_is 323 M3) fun v6 M5 => (if v6 = (0 : Int32) then obi (xX12_is 324 M5) fun v8 M7 => (if v8 = (0 : Int32) then obi (xX12_is 325 M7) fun v10 M9 => (if v10 = (0 : Int32) then obi (xX12_is 326 M9) fun v12 M11 => (if v12 = (0 : Int32) then obi (xX12_is 327 M11) fun v14 M13 => (if v14 = (0 : Int32) then some ((nI 1), M13) else some ((nI 14), M13)) else some ((nI 13), M11)) else some ((nI 12), M9)) else some ((nI 11), M7)) else some ((nI 10), M5)) else some ((nI 9), M3)) else some ((nI 8), M1))
set_option maxRecDepth 20000 in
set_option maxHeartbeats 2000000 in
theorem tX12_planWord   (M : j_M) : J (ρ := Int32 × j_M) yX12_planWord cX12_planWord 1 (some .int) 5 142 j_ei 0 [(0, .inr (17, 0, 200))] [] M (xX12_planWord   M) := by
  unfold xX12_planWord
  refine K_aload_n (q := 1) 0 dX12_planWord_0 rfl rfl rfl ?_
  refine K_ldcS (q := 3) (i := 0) dX12_planWord_1 (List.mem_of_getElem? (i := 0) rfl) rfl ?_
  refine K_cvi (q := 6) [.inr (4, 0, 321)] dX12_planWord_3 cb_X12_is cvRX12_220 rc_7 (show (17 : Nat) ≠ 0 by decide) rfl (Nat.le_of_ble_eq_true rfl) ⟨by decide, by decide⟩ (Nat.le_of_ble_eq_true rfl) rfl (tX12_is 321 M) rfl (fun v2 M1 => ?_)
  refine K_if_eq (q := 9) (tgt := 12) dX12_planWord_6 rfl ?_ rfl ?_
  · refine K_aload_n (q := 13) 0 dX12_planWord_12 rfl rfl rfl ?_
    refine K_ldcS (q := 15) (i := 1) dX12_planWord_13 (List.mem_of_getElem? (i := 1) rfl) rfl ?_
    refine K_cvi (q := 18) [.inr (4, 0, 322)] dX12_planWord_15 cb_X12_is cvRX12_220 rc_7 (show (17 : Nat) ≠ 0 by decide) rfl (Nat.le_of_ble_eq_true rfl) ⟨by decide, by decide⟩ (Nat.le_of_ble_eq_true rfl) rfl (tX12_is 322 M1) rfl (fun v4 M3 => ?_)
    refine K_if_eq (q := 21) (tgt := 24) dX12_planWord_18 rfl ?_ rfl ?_
    · refine K_aload_n (q := 25) 0 dX12_planWord_24 rfl rfl rfl ?_
      refine K_ldcS (q := 27) (i := 2) dX12_planWord_25 (List.mem_of_getElem? (i := 2) rfl) rfl ?_
      refine K_cvi (q := 30) [.inr (4, 0, 323)] dX12_planWord_27 cb_X12_is cvRX12_220 rc_7 (show (17 : Nat) ≠ 0 by decide) rfl (Nat.le_of_ble_eq_true rfl) ⟨by decide, by decide⟩ (Nat.le_of_ble_eq_true rfl) rfl (tX12_is 323 M3) rfl (fun v6 M5 => ?_)
      refine K_if_eq (q := 33) (tgt := 36) dX12_planWord_30 rfl ?_ rfl ?_
      · refine K_aload_n (q := 37) 0 dX12_planWord_36 rfl rfl rfl ?_
        refine K_ldcS (q := 39) (i := 3) dX12_planWord_37 (List.mem_of_getElem? (i := 3) rfl) rfl ?_
        refine K_cvi (q := 42) [.inr (4, 0, 324)] dX12_planWord_39 cb_X12_is cvRX12_220 rc_7 (show (17 : Nat) ≠ 0 by decide) rfl (Nat.le_of_ble_eq_true rfl) ⟨by decide, by decide⟩ (Nat.le_of_ble_eq_true rfl) rfl (tX12_is 324 M5) rfl (fun v8 M7 => ?_)
        refine K_if_eq (q := 45) (tgt := 48) dX12_planWord_42 rfl ?_ rfl ?_
        · refine K_aload_n (q := 49) 0 dX12_planWord_48 rfl rfl rfl ?_
          refine K_ldcS (q := 51) (i := 4) dX12_planWord_49 (List.mem_of_getElem? (i := 4) rfl) rfl ?_
          refine K_cvi (q := 54) [.inr (4, 0, 325)] dX12_planWord_51 cb_X12_is cvRX12_220 rc_7 (show (17 : Nat) ≠ 0 by decide) rfl (Nat.le_of_ble_eq_true rfl) ⟨by decide, by decide⟩ (Nat.le_of_ble_eq_true rfl) rfl (tX12_is 325 M7) rfl (fun v10 M9 => ?_)
          refine K_if_eq (q := 57) (tgt := 60) dX12_planWord_54 rfl ?_ rfl ?_
          · refine K_aload_n (q := 61) 0 dX12_planWord_60 rfl rfl rfl ?_
            refine K_ldcS (q := 63) (i := 5) dX12_planWord_61 (List.mem_of_getElem? (i := 5) rfl) rfl ?_
            refine K_cvi (q := 66) [.inr (4, 0, 326)] dX12_planWord_63 cb_X12_is cvRX12_220 rc_7 (show (17 : Nat) ≠ 0 by decide) rfl (Nat.le_of_ble_eq_true rfl) ⟨by decide, by decide⟩ (Nat.le_of_ble_eq_true rfl) rfl (tX12_is 326 M9) rfl (fun v12 M11 => ?_)
            refine K_if_eq (q := 69) (tgt := 72) dX12_planWord_66 rfl ?_ rfl ?_
            · refine K_aload_n (q := 73) 0 dX12_planWord_72 rfl rfl rfl ?_
              refine K_ldcS (q := 75) (i := 6) dX12_planWord_73 (List.mem_of_getElem? (i := 6) rfl) rfl ?_
              refine K_cvi (q := 78) [.inr (4, 0, 327)] dX12_planWord_75 cb_X12_is cvRX12_220 rc_7 (show (17 : Nat) ≠ 0 by decide) rfl (Nat.le_of_ble_eq_true rfl) ⟨by decide, by decide⟩ (Nat.le_of_ble_eq_true rfl) rfl (tX12_is 327 M11) rfl (fun v14 M13 => ?_)
              refine K_if_eq (q := 81) (tgt := 86) dX12_planWord_78 rfl ?_ rfl ?_
              · refine K_iconst (q := 87) (v := nI 1) dX12_planWord_86 rfl rfl ?_
                exact J_iret dX12_planWord_87
              · refine K_bipush (q := 83) (v := nI 14) dX12_planWord_81 rfl rfl ?_
                refine J_goto (tgt := 87) dX12_planWord_83 rfl ?_
                exact J_iret dX12_planWord_87
            · refine K_bipush (q := 71) (v := nI 13) dX12_planWord_69 rfl rfl ?_
              exact J_iret dX12_planWord_71
          · refine K_bipush (q := 59) (v := nI 12) dX12_planWord_57 rfl rfl ?_
            exact J_iret dX12_planWord_59
        · refine K_bipush (q := 47) (v := nI 11) dX12_planWord_45 rfl rfl ?_
          exact J_iret dX12_planWord_47
      · refine K_bipush (q := 35) (v := nI 10) dX12_planWord_33 rfl rfl ?_
        exact J_iret dX12_planWord_35
    · refine K_bipush (q := 23) (v := nI 9) dX12_planWord_21 rfl rfl ?_
      exact J_iret dX12_planWord_23
  · refine K_bipush (q := 11) (v := nI 8) dX12_planWord_9 rfl rfl ?_
    exact J_iret dX12_planWord_11
theorem dX12_wordOf_0 : decode cX12_wordOf 0 = .ok (.aload_n 0, 1) := by decide +kernel
theorem dX12_wordOf_1 : decode cX12_wordOf 1 = .ok (.ldc 236, 2) := by decide +kernel
theorem dX12_wordOf_3 : decode cX12_wordOf 3 = .ok (.invokevirtual 220, 3) := by decide +kernel
theorem dX12_wordOf_6 : decode cX12_wordOf 6 = .ok (.ifCond .eq 5, 3) := by decide +kernel
theorem dX12_wordOf_9 : decode cX12_wordOf 9 = .ok (.iconst 3, 1) := by decide +kernel
theorem dX12_wordOf_10 : decode cX12_wordOf 10 = .ok (.ireturn, 1) := by decide +kernel
theorem dX12_wordOf_11 : decode cX12_wordOf 11 = .ok (.aload_n 0, 1) := by decide +kernel
theorem dX12_wordOf_12 : decode cX12_wordOf 12 = .ok (.ldc 238, 2) := by decide +kernel
theorem dX12_wordOf_14 : decode cX12_wordOf 14 = .ok (.invokevirtual 220, 3) := by decide +kernel
theorem dX12_wordOf_17 : decode cX12_wordOf 17 = .ok (.ifCond .eq 5, 3) := by decide +kernel
theorem dX12_wordOf_20 : decode cX12_wordOf 20 = .ok (.iconst 4, 1) := by decide +kernel
theorem dX12_wordOf_21 : decode cX12_wordOf 21 = .ok (.ireturn, 1) := by decide +kernel
theorem dX12_wordOf_22 : decode cX12_wordOf 22 = .ok (.aload_n 0, 1) := by decide +kernel
theorem dX12_wordOf_23 : decode cX12_wordOf 23 = .ok (.ldc 240, 2) := by decide +kernel
theorem dX12_wordOf_25 : decode cX12_wordOf 25 = .ok (.invokevirtual 220, 3) := by decide +kernel
theorem dX12_wordOf_28 : decode cX12_wordOf 28 = .ok (.ifCond .eq 5, 3) := by decide +kernel
theorem dX12_wordOf_31 : decode cX12_wordOf 31 = .ok (.iconst 5, 1) := by decide +kernel
theorem dX12_wordOf_32 : decode cX12_wordOf 32 = .ok (.ireturn, 1) := by decide +kernel
theorem dX12_wordOf_33 : decode cX12_wordOf 33 = .ok (.aload_n 0, 1) := by decide +kernel
theorem dX12_wordOf_34 : decode cX12_wordOf 34 = .ok (.getfield 242, 3) := by decide +kernel
theorem dX12_wordOf_37 : decode cX12_wordOf 37 = .ok (.ifCond .eq 8, 3) := by decide +kernel
theorem dX12_wordOf_40 : decode cX12_wordOf 40 = .ok (.aload_n 0, 1) := by decide +kernel
theorem dX12_wordOf_41 : decode cX12_wordOf 41 = .ok (.invokevirtual 246, 3) := by decide +kernel
theorem dX12_wordOf_44 : decode cX12_wordOf 44 = .ok (.ireturn, 1) := by decide +kernel
theorem dX12_wordOf_45 : decode cX12_wordOf 45 = .ok (.aload_n 0, 1) := by decide +kernel
theorem dX12_wordOf_46 : decode cX12_wordOf 46 = .ok (.ldc 249, 2) := by decide +kernel
theorem dX12_wordOf_48 : decode cX12_wordOf 48 = .ok (.invokevirtual 220, 3) := by decide +kernel
theorem dX12_wordOf_51 : decode cX12_wordOf 51 = .ok (.ifCond .eq 6, 3) := by decide +kernel
theorem dX12_wordOf_54 : decode cX12_wordOf 54 = .ok (.bipush 6, 2) := by decide +kernel
theorem dX12_wordOf_56 : decode cX12_wordOf 56 = .ok (.ireturn, 1) := by decide +kernel
theorem dX12_wordOf_57 : decode cX12_wordOf 57 = .ok (.aload_n 0, 1) := by decide +kernel
theorem dX12_wordOf_58 : decode cX12_wordOf 58 = .ok (.ldc 251, 2) := by decide +kernel
theorem dX12_wordOf_60 : decode cX12_wordOf 60 = .ok (.invokevirtual 220, 3) := by decide +kernel
theorem dX12_wordOf_63 : decode cX12_wordOf 63 = .ok (.ifCond .eq 8, 3) := by decide +kernel
theorem dX12_wordOf_66 : decode cX12_wordOf 66 = .ok (.bipush 7, 2) := by decide +kernel
theorem dX12_wordOf_68 : decode cX12_wordOf 68 = .ok (.goto 4, 3) := by decide +kernel
theorem dX12_wordOf_71 : decode cX12_wordOf 71 = .ok (.iconst 1, 1) := by decide +kernel
theorem dX12_wordOf_72 : decode cX12_wordOf 72 = .ok (.ireturn, 1) := by decide +kernel
def xX12_wordOf   (M : j_M) : Option (Int32 × j_M) := obi (xX12_is 328 M) fun v2 M1 => (if v2 = (0 : Int32) then obi (xX12_is 329 M1) fun v4 M3 => (if v4 = (0 : Int32) then obi (xX12_is 330 M3) fun v6 M5 => (if v6 = (0 : Int32) then oli (M5 200 23) fun v7 => (if v7 = (0 : Int32) then obi (xX12_is 331 M5) fun v9 M8 => (if v9 = (0 : Int32) then obi (xX12_is 332 M8) fun v11 M10 => (if v11 = (0 : Int32) then some ((nI 1), M10) else some ((nI 7), M10)) else some ((nI 6), M8)) else obi (xX12_planWord M5) fun v13 M12 => some (v13, M12)) else some ((nI 5), M5)) else some ((nI 4), M3)) else some ((nI 3), M1))
set_option maxRecDepth 20000 in
set_option maxHeartbeats 2000000 in
theorem tX12_wordOf   (M : j_M) : J (ρ := Int32 × j_M) yX12_wordOf cX12_wordOf 1 (some .int) 6 162 j_ei 0 [(0, .inr (17, 0, 200))] [] M (xX12_wordOf   M) := by
  unfold xX12_wordOf
  refine K_aload_n (q := 1) 0 dX12_wordOf_0 rfl rfl rfl ?_
  refine K_ldcS (q := 3) (i := 7) dX12_wordOf_1 (List.mem_of_getElem? (i := 7) rfl) rfl ?_
  refine K_cvi (q := 6) [.inr (4, 0, 328)] dX12_wordOf_3 cb_X12_is cvRX12_220 rc_7 (show (17 : Nat) ≠ 0 by decide) rfl (Nat.le_of_ble_eq_true rfl) ⟨by decide, by decide⟩ (Nat.le_of_ble_eq_true rfl) rfl (tX12_is 328 M) rfl (fun v2 M1 => ?_)
  refine K_if_eq (q := 9) (tgt := 11) dX12_wordOf_6 rfl ?_ rfl ?_
  · refine K_aload_n (q := 12) 0 dX12_wordOf_11 rfl rfl rfl ?_
    refine K_ldcS (q := 14) (i := 8) dX12_wordOf_12 (List.mem_of_getElem? (i := 8) rfl) rfl ?_
    refine K_cvi (q := 17) [.inr (4, 0, 329)] dX12_wordOf_14 cb_X12_is cvRX12_220 rc_7 (show (17 : Nat) ≠ 0 by decide) rfl (Nat.le_of_ble_eq_true rfl) ⟨by decide, by decide⟩ (Nat.le_of_ble_eq_true rfl) rfl (tX12_is 329 M1) rfl (fun v4 M3 => ?_)
    refine K_if_eq (q := 20) (tgt := 22) dX12_wordOf_17 rfl ?_ rfl ?_
    · refine K_aload_n (q := 23) 0 dX12_wordOf_22 rfl rfl rfl ?_
      refine K_ldcS (q := 25) (i := 9) dX12_wordOf_23 (List.mem_of_getElem? (i := 9) rfl) rfl ?_
      refine K_cvi (q := 28) [.inr (4, 0, 330)] dX12_wordOf_25 cb_X12_is cvRX12_220 rc_7 (show (17 : Nat) ≠ 0 by decide) rfl (Nat.le_of_ble_eq_true rfl) ⟨by decide, by decide⟩ (Nat.le_of_ble_eq_true rfl) rfl (tX12_is 330 M3) rfl (fun v6 M5 => ?_)
      refine K_if_eq (q := 31) (tgt := 33) dX12_wordOf_28 rfl ?_ rfl ?_
      · refine K_aload_n (q := 34) 0 dX12_wordOf_33 rfl rfl rfl ?_
        refine K_getI (q := 37) (ci := 7) 23 dX12_wordOf_34 fRX12_242 rfl rfl rfl (fun v7 => ?_)
        refine K_if_eq (q := 40) (tgt := 45) dX12_wordOf_37 rfl ?_ rfl ?_
        · refine K_aload_n (q := 46) 0 dX12_wordOf_45 rfl rfl rfl ?_
          refine K_ldcS (q := 48) (i := 10) dX12_wordOf_46 (List.mem_of_getElem? (i := 10) rfl) rfl ?_
          refine K_cvi (q := 51) [.inr (4, 0, 331)] dX12_wordOf_48 cb_X12_is cvRX12_220 rc_7 (show (17 : Nat) ≠ 0 by decide) rfl (Nat.le_of_ble_eq_true rfl) ⟨by decide, by decide⟩ (Nat.le_of_ble_eq_true rfl) rfl (tX12_is 331 M5) rfl (fun v9 M8 => ?_)
          refine K_if_eq (q := 54) (tgt := 57) dX12_wordOf_51 rfl ?_ rfl ?_
          · refine K_aload_n (q := 58) 0 dX12_wordOf_57 rfl rfl rfl ?_
            refine K_ldcS (q := 60) (i := 11) dX12_wordOf_58 (List.mem_of_getElem? (i := 11) rfl) rfl ?_
            refine K_cvi (q := 63) [.inr (4, 0, 332)] dX12_wordOf_60 cb_X12_is cvRX12_220 rc_7 (show (17 : Nat) ≠ 0 by decide) rfl (Nat.le_of_ble_eq_true rfl) ⟨by decide, by decide⟩ (Nat.le_of_ble_eq_true rfl) rfl (tX12_is 332 M8) rfl (fun v11 M10 => ?_)
            refine K_if_eq (q := 66) (tgt := 71) dX12_wordOf_63 rfl ?_ rfl ?_
            · refine K_iconst (q := 72) (v := nI 1) dX12_wordOf_71 rfl rfl ?_
              exact J_iret dX12_wordOf_72
            · refine K_bipush (q := 68) (v := nI 7) dX12_wordOf_66 rfl rfl ?_
              refine J_goto (tgt := 72) dX12_wordOf_68 rfl ?_
              exact J_iret dX12_wordOf_72
          · refine K_bipush (q := 56) (v := nI 6) dX12_wordOf_54 rfl rfl ?_
            exact J_iret dX12_wordOf_56
        · refine K_aload_n (q := 41) 0 dX12_wordOf_40 rfl rfl rfl ?_
          refine K_cvi (q := 44) [] dX12_wordOf_41 cb_X12_planWord cvRX12_246 rc_7 (show (17 : Nat) ≠ 0 by decide) rfl (Nat.le_of_ble_eq_true rfl) ⟨by decide, by decide⟩ (Nat.le_of_ble_eq_true rfl) rfl (tX12_planWord M5) rfl (fun v13 M12 => ?_)
          exact J_iret dX12_wordOf_44
      · refine K_iconst (q := 32) (v := nI 5) dX12_wordOf_31 rfl rfl ?_
        exact J_iret dX12_wordOf_32
    · refine K_iconst (q := 21) (v := nI 4) dX12_wordOf_20 rfl rfl ?_
      exact J_iret dX12_wordOf_21
  · refine K_iconst (q := 10) (v := nI 3) dX12_wordOf_9 rfl rfl ?_
    exact J_iret dX12_wordOf_10
theorem dX12_goesOn_0 : decode cX12_goesOn 0 = .ok (.aload_n 0, 1) := by decide +kernel
theorem dX12_goesOn_1 : decode cX12_goesOn 1 = .ok (.getfield 203, 3) := by decide +kernel
theorem dX12_goesOn_4 : decode cX12_goesOn 4 = .ok (.aload_n 0, 1) := by decide +kernel
theorem dX12_goesOn_5 : decode cX12_goesOn 5 = .ok (.getfield 197, 3) := by decide +kernel
theorem dX12_goesOn_8 : decode cX12_goesOn 8 = .ok (.if_icmp .ge 44, 3) := by decide +kernel
theorem dX12_goesOn_11 : decode cX12_goesOn 11 = .ok (.aload_n 0, 1) := by decide +kernel
theorem dX12_goesOn_12 : decode cX12_goesOn 12 = .ok (.getfield 22, 3) := by decide +kernel
theorem dX12_goesOn_15 : decode cX12_goesOn 15 = .ok (.aload_n 0, 1) := by decide +kernel
theorem dX12_goesOn_16 : decode cX12_goesOn 16 = .ok (.getfield 203, 3) := by decide +kernel
theorem dX12_goesOn_19 : decode cX12_goesOn 19 = .ok (.baload, 1) := by decide +kernel
theorem dX12_goesOn_20 : decode cX12_goesOn 20 = .ok (.bipush 32, 2) := by decide +kernel
theorem dX12_goesOn_22 : decode cX12_goesOn 22 = .ok (.if_icmp .eq 17, 3) := by decide +kernel
theorem dX12_goesOn_25 : decode cX12_goesOn 25 = .ok (.aload_n 0, 1) := by decide +kernel
theorem dX12_goesOn_26 : decode cX12_goesOn 26 = .ok (.getfield 22, 3) := by decide +kernel
theorem dX12_goesOn_29 : decode cX12_goesOn 29 = .ok (.aload_n 0, 1) := by decide +kernel
theorem dX12_goesOn_30 : decode cX12_goesOn 30 = .ok (.getfield 203, 3) := by decide +kernel
theorem dX12_goesOn_33 : decode cX12_goesOn 33 = .ok (.baload, 1) := by decide +kernel
theorem dX12_goesOn_34 : decode cX12_goesOn 34 = .ok (.bipush 10, 2) := by decide +kernel
theorem dX12_goesOn_36 : decode cX12_goesOn 36 = .ok (.if_icmp .ne 16, 3) := by decide +kernel
theorem dX12_goesOn_39 : decode cX12_goesOn 39 = .ok (.aload_n 0, 1) := by decide +kernel
theorem dX12_goesOn_40 : decode cX12_goesOn 40 = .ok (.dup, 1) := by decide +kernel
theorem dX12_goesOn_41 : decode cX12_goesOn 41 = .ok (.getfield 203, 3) := by decide +kernel
theorem dX12_goesOn_44 : decode cX12_goesOn 44 = .ok (.iconst 1, 1) := by decide +kernel
theorem dX12_goesOn_45 : decode cX12_goesOn 45 = .ok (.iadd, 1) := by decide +kernel
theorem dX12_goesOn_46 : decode cX12_goesOn 46 = .ok (.putfield 203, 3) := by decide +kernel
theorem dX12_goesOn_49 : decode cX12_goesOn 49 = .ok (.goto (-49), 3) := by decide +kernel
theorem dX12_goesOn_52 : decode cX12_goesOn 52 = .ok (.aload_n 0, 1) := by decide +kernel
theorem dX12_goesOn_53 : decode cX12_goesOn 53 = .ok (.aload_n 0, 1) := by decide +kernel
theorem dX12_goesOn_54 : decode cX12_goesOn 54 = .ok (.getfield 203, 3) := by decide +kernel
theorem dX12_goesOn_57 : decode cX12_goesOn 57 = .ok (.putfield 206, 3) := by decide +kernel
theorem dX12_goesOn_60 : decode cX12_goesOn 60 = .ok (.aload_n 0, 1) := by decide +kernel
theorem dX12_goesOn_61 : decode cX12_goesOn 61 = .ok (.getfield 203, 3) := by decide +kernel
theorem dX12_goesOn_64 : decode cX12_goesOn 64 = .ok (.aload_n 0, 1) := by decide +kernel
theorem dX12_goesOn_65 : decode cX12_goesOn 65 = .ok (.getfield 197, 3) := by decide +kernel
theorem dX12_goesOn_68 : decode cX12_goesOn 68 = .ok (.if_icmp .ne 11, 3) := by decide +kernel
theorem dX12_goesOn_71 : decode cX12_goesOn 71 = .ok (.aload_n 0, 1) := by decide +kernel
theorem dX12_goesOn_72 : decode cX12_goesOn 72 = .ok (.iconst 0, 1) := by decide +kernel
theorem dX12_goesOn_73 : decode cX12_goesOn 73 = .ok (.putfield 253, 3) := by decide +kernel
theorem dX12_goesOn_76 : decode cX12_goesOn 76 = .ok (.goto 189, 3) := by decide +kernel
theorem dX12_goesOn_79 : decode cX12_goesOn 79 = .ok (.aload_n 0, 1) := by decide +kernel
theorem dX12_goesOn_80 : decode cX12_goesOn 80 = .ok (.invokevirtual 256, 3) := by decide +kernel
theorem dX12_goesOn_83 : decode cX12_goesOn 83 = .ok (.ifCond .eq 34, 3) := by decide +kernel
theorem dX12_goesOn_86 : decode cX12_goesOn 86 = .ok (.aload_n 0, 1) := by decide +kernel
theorem dX12_goesOn_87 : decode cX12_goesOn 87 = .ok (.invokevirtual 256, 3) := by decide +kernel
theorem dX12_goesOn_90 : decode cX12_goesOn 90 = .ok (.ifCond .eq 16, 3) := by decide +kernel
theorem dX12_goesOn_93 : decode cX12_goesOn 93 = .ok (.aload_n 0, 1) := by decide +kernel
theorem dX12_goesOn_94 : decode cX12_goesOn 94 = .ok (.dup, 1) := by decide +kernel
theorem dX12_goesOn_95 : decode cX12_goesOn 95 = .ok (.getfield 203, 3) := by decide +kernel
theorem dX12_goesOn_98 : decode cX12_goesOn 98 = .ok (.iconst 1, 1) := by decide +kernel
theorem dX12_goesOn_99 : decode cX12_goesOn 99 = .ok (.iadd, 1) := by decide +kernel
theorem dX12_goesOn_100 : decode cX12_goesOn 100 = .ok (.putfield 203, 3) := by decide +kernel
theorem dX12_goesOn_103 : decode cX12_goesOn 103 = .ok (.goto (-17), 3) := by decide +kernel
theorem dX12_goesOn_106 : decode cX12_goesOn 106 = .ok (.aload_n 0, 1) := by decide +kernel
theorem dX12_goesOn_107 : decode cX12_goesOn 107 = .ok (.aload_n 0, 1) := by decide +kernel
theorem dX12_goesOn_108 : decode cX12_goesOn 108 = .ok (.invokevirtual 259, 3) := by decide +kernel
theorem dX12_goesOn_111 : decode cX12_goesOn 111 = .ok (.putfield 253, 3) := by decide +kernel
theorem dX12_goesOn_114 : decode cX12_goesOn 114 = .ok (.goto 151, 3) := by decide +kernel
theorem dX12_goesOn_117 : decode cX12_goesOn 117 = .ok (.aload_n 0, 1) := by decide +kernel
theorem dX12_goesOn_118 : decode cX12_goesOn 118 = .ok (.invokevirtual 262, 3) := by decide +kernel
theorem dX12_goesOn_121 : decode cX12_goesOn 121 = .ok (.ifCond .eq 94, 3) := by decide +kernel
theorem dX12_goesOn_124 : decode cX12_goesOn 124 = .ok (.aload_n 0, 1) := by decide +kernel
theorem dX12_goesOn_125 : decode cX12_goesOn 125 = .ok (.iconst 0, 1) := by decide +kernel
theorem dX12_goesOn_126 : decode cX12_goesOn 126 = .ok (.putfield 265, 3) := by decide +kernel
theorem dX12_goesOn_129 : decode cX12_goesOn 129 = .ok (.aload_n 0, 1) := by decide +kernel
theorem dX12_goesOn_130 : decode cX12_goesOn 130 = .ok (.invokevirtual 262, 3) := by decide +kernel
theorem dX12_goesOn_133 : decode cX12_goesOn 133 = .ok (.ifCond .eq 57, 3) := by decide +kernel
theorem dX12_goesOn_136 : decode cX12_goesOn 136 = .ok (.aload_n 0, 1) := by decide +kernel
theorem dX12_goesOn_137 : decode cX12_goesOn 137 = .ok (.aload_n 0, 1) := by decide +kernel
theorem dX12_goesOn_138 : decode cX12_goesOn 138 = .ok (.getfield 203, 3) := by decide +kernel
theorem dX12_goesOn_141 : decode cX12_goesOn 141 = .ok (.aload_n 0, 1) := by decide +kernel
theorem dX12_goesOn_142 : decode cX12_goesOn 142 = .ok (.getfield 206, 3) := by decide +kernel
theorem dX12_goesOn_145 : decode cX12_goesOn 145 = .ok (.isub, 1) := by decide +kernel
theorem dX12_goesOn_146 : decode cX12_goesOn 146 = .ok (.iconst 4, 1) := by decide +kernel
theorem dX12_goesOn_147 : decode cX12_goesOn 147 = .ok (.if_icmp .ge 26, 3) := by decide +kernel
theorem dX12_goesOn_150 : decode cX12_goesOn 150 = .ok (.bipush 10, 2) := by decide +kernel
theorem dX12_goesOn_152 : decode cX12_goesOn 152 = .ok (.aload_n 0, 1) := by decide +kernel
theorem dX12_goesOn_153 : decode cX12_goesOn 153 = .ok (.getfield 265, 3) := by decide +kernel
theorem dX12_goesOn_156 : decode cX12_goesOn 156 = .ok (.imul, 1) := by decide +kernel
theorem dX12_goesOn_157 : decode cX12_goesOn 157 = .ok (.aload_n 0, 1) := by decide +kernel
theorem dX12_goesOn_158 : decode cX12_goesOn 158 = .ok (.getfield 22, 3) := by decide +kernel
theorem dX12_goesOn_161 : decode cX12_goesOn 161 = .ok (.aload_n 0, 1) := by decide +kernel
theorem dX12_goesOn_162 : decode cX12_goesOn 162 = .ok (.getfield 203, 3) := by decide +kernel
theorem dX12_goesOn_165 : decode cX12_goesOn 165 = .ok (.baload, 1) := by decide +kernel
theorem dX12_goesOn_166 : decode cX12_goesOn 166 = .ok (.iadd, 1) := by decide +kernel
theorem dX12_goesOn_167 : decode cX12_goesOn 167 = .ok (.bipush 48, 2) := by decide +kernel
theorem dX12_goesOn_169 : decode cX12_goesOn 169 = .ok (.isub, 1) := by decide +kernel
theorem dX12_goesOn_170 : decode cX12_goesOn 170 = .ok (.goto 4, 3) := by decide +kernel
theorem dX12_goesOn_173 : decode cX12_goesOn 173 = .ok (.iconst 0, 1) := by decide +kernel
theorem dX12_goesOn_174 : decode cX12_goesOn 174 = .ok (.putfield 265, 3) := by decide +kernel
theorem dX12_goesOn_177 : decode cX12_goesOn 177 = .ok (.aload_n 0, 1) := by decide +kernel
theorem dX12_goesOn_178 : decode cX12_goesOn 178 = .ok (.dup, 1) := by decide +kernel
theorem dX12_goesOn_179 : decode cX12_goesOn 179 = .ok (.getfield 203, 3) := by decide +kernel
theorem dX12_goesOn_182 : decode cX12_goesOn 182 = .ok (.iconst 1, 1) := by decide +kernel
theorem dX12_goesOn_183 : decode cX12_goesOn 183 = .ok (.iadd, 1) := by decide +kernel
theorem dX12_goesOn_184 : decode cX12_goesOn 184 = .ok (.putfield 203, 3) := by decide +kernel
theorem dX12_goesOn_187 : decode cX12_goesOn 187 = .ok (.goto (-58), 3) := by decide +kernel
theorem dX12_goesOn_190 : decode cX12_goesOn 190 = .ok (.aload_n 0, 1) := by decide +kernel
theorem dX12_goesOn_191 : decode cX12_goesOn 191 = .ok (.aload_n 0, 1) := by decide +kernel
theorem dX12_goesOn_192 : decode cX12_goesOn 192 = .ok (.getfield 203, 3) := by decide +kernel
theorem dX12_goesOn_195 : decode cX12_goesOn 195 = .ok (.aload_n 0, 1) := by decide +kernel
theorem dX12_goesOn_196 : decode cX12_goesOn 196 = .ok (.getfield 206, 3) := by decide +kernel
theorem dX12_goesOn_199 : decode cX12_goesOn 199 = .ok (.isub, 1) := by decide +kernel
theorem dX12_goesOn_200 : decode cX12_goesOn 200 = .ok (.iconst 4, 1) := by decide +kernel
theorem dX12_goesOn_201 : decode cX12_goesOn 201 = .ok (.if_icmp .le 7, 3) := by decide +kernel
theorem dX12_goesOn_204 : decode cX12_goesOn 204 = .ok (.iconst 1, 1) := by decide +kernel
theorem dX12_goesOn_205 : decode cX12_goesOn 205 = .ok (.goto 4, 3) := by decide +kernel
theorem dX12_goesOn_208 : decode cX12_goesOn 208 = .ok (.iconst 2, 1) := by decide +kernel
theorem dX12_goesOn_209 : decode cX12_goesOn 209 = .ok (.putfield 253, 3) := by decide +kernel
theorem dX12_goesOn_212 : decode cX12_goesOn 212 = .ok (.goto 53, 3) := by decide +kernel
theorem dX12_goesOn_215 : decode cX12_goesOn 215 = .ok (.aload_n 0, 1) := by decide +kernel
theorem dX12_goesOn_216 : decode cX12_goesOn 216 = .ok (.getfield 22, 3) := by decide +kernel
theorem dX12_goesOn_219 : decode cX12_goesOn 219 = .ok (.aload_n 0, 1) := by decide +kernel
theorem dX12_goesOn_220 : decode cX12_goesOn 220 = .ok (.getfield 203, 3) := by decide +kernel
theorem dX12_goesOn_223 : decode cX12_goesOn 223 = .ok (.baload, 1) := by decide +kernel
theorem dX12_goesOn_224 : decode cX12_goesOn 224 = .ok (.istore_n 1, 1) := by decide +kernel
theorem dX12_goesOn_225 : decode cX12_goesOn 225 = .ok (.aload_n 0, 1) := by decide +kernel
theorem dX12_goesOn_226 : decode cX12_goesOn 226 = .ok (.iload_n 1, 1) := by decide +kernel
theorem dX12_goesOn_227 : decode cX12_goesOn 227 = .ok (.bipush 59, 2) := by decide +kernel
theorem dX12_goesOn_229 : decode cX12_goesOn 229 = .ok (.if_icmp .eq 15, 3) := by decide +kernel
theorem dX12_goesOn_232 : decode cX12_goesOn 232 = .ok (.iload_n 1, 1) := by decide +kernel
theorem dX12_goesOn_233 : decode cX12_goesOn 233 = .ok (.bipush 123, 2) := by decide +kernel
theorem dX12_goesOn_235 : decode cX12_goesOn 235 = .ok (.if_icmp .eq 9, 3) := by decide +kernel
theorem dX12_goesOn_238 : decode cX12_goesOn 238 = .ok (.iload_n 1, 1) := by decide +kernel
theorem dX12_goesOn_239 : decode cX12_goesOn 239 = .ok (.bipush 125, 2) := by decide +kernel
theorem dX12_goesOn_241 : decode cX12_goesOn 241 = .ok (.if_icmp .ne 10, 3) := by decide +kernel
theorem dX12_goesOn_244 : decode cX12_goesOn 244 = .ok (.bipush 100, 2) := by decide +kernel
theorem dX12_goesOn_246 : decode cX12_goesOn 246 = .ok (.iload_n 1, 1) := by decide +kernel
theorem dX12_goesOn_247 : decode cX12_goesOn 247 = .ok (.iadd, 1) := by decide +kernel
theorem dX12_goesOn_248 : decode cX12_goesOn 248 = .ok (.goto 4, 3) := by decide +kernel
theorem dX12_goesOn_251 : decode cX12_goesOn 251 = .ok (.iconst 1, 1) := by decide +kernel
theorem dX12_goesOn_252 : decode cX12_goesOn 252 = .ok (.putfield 253, 3) := by decide +kernel
theorem dX12_goesOn_255 : decode cX12_goesOn 255 = .ok (.aload_n 0, 1) := by decide +kernel
theorem dX12_goesOn_256 : decode cX12_goesOn 256 = .ok (.dup, 1) := by decide +kernel
theorem dX12_goesOn_257 : decode cX12_goesOn 257 = .ok (.getfield 203, 3) := by decide +kernel
theorem dX12_goesOn_260 : decode cX12_goesOn 260 = .ok (.iconst 1, 1) := by decide +kernel
theorem dX12_goesOn_261 : decode cX12_goesOn 261 = .ok (.iadd, 1) := by decide +kernel
theorem dX12_goesOn_262 : decode cX12_goesOn 262 = .ok (.putfield 203, 3) := by decide +kernel
theorem dX12_goesOn_265 : decode cX12_goesOn 265 = .ok (.return_, 1) := by decide +kernel
def xX12_goesOn_252   (s0 : Int32) (M : j_M) : Option (j_M) := oml (mw M 200 13 s0) fun M1 => oli (M1 200 12) fun v2 => oml (mw M1 200 12 (v2 + (nI 1))) fun M3 => some M3
set_option maxRecDepth 20000 in
set_option maxHeartbeats 2000000 in
theorem tX12_goesOn_252    (s0 : Int32) (M : j_M) : J (ρ := j_M) yX12_goesOn cX12_goesOn 2 none 7 182 j_ev 252 [(0, .inr (17, 0, 200))] [.inl (s0), .inr (17, 0, 200)] M (xX12_goesOn_252  s0 M) := by
  unfold xX12_goesOn_252
  refine K_putI (q := 255) (ci := 7) 13 dX12_goesOn_252 fRX12_253 fp_7_13 rfl rfl (by decide) rfl (fun M1 => ?_)
  refine K_aload_n (q := 256) 0 dX12_goesOn_255 rfl rfl rfl ?_
  refine K_dup (q := 257) dX12_goesOn_256 rfl ?_
  refine K_getI (q := 260) (ci := 7) 12 dX12_goesOn_257 fRX12_203 rfl rfl rfl (fun v2 => ?_)
  refine K_iconst (q := 261) (v := nI 1) dX12_goesOn_260 rfl rfl ?_
  refine K_iadd (q := 262) dX12_goesOn_261 rfl ?_
  refine K_putI (q := 265) (ci := 7) 12 dX12_goesOn_262 fRX12_203 fp_7_12 rfl rfl (by decide) rfl (fun M3 => ?_)
  exact J_vret dX12_goesOn_265
def xX12_goesOn_244   (l1 : Int32) (M : j_M) : Option (j_M) := xX12_goesOn_252  ((nI 100) + l1) M
set_option maxRecDepth 20000 in
set_option maxHeartbeats 2000000 in
theorem tX12_goesOn_244    (l1 : Int32) (M : j_M) : J (ρ := j_M) yX12_goesOn cX12_goesOn 2 none 7 182 j_ev 244 [(0, .inr (17, 0, 200)), (1, .inl (l1))] [.inr (17, 0, 200)] M (xX12_goesOn_244  l1 M) := by
  unfold xX12_goesOn_244
  refine K_bipush (q := 246) (v := nI 100) dX12_goesOn_244 rfl rfl ?_
  refine K_iload_n (q := 247) 1 dX12_goesOn_246 rfl rfl rfl ?_
  refine K_iadd (q := 248) dX12_goesOn_247 rfl ?_
  refine J_goto (tgt := 252) dX12_goesOn_248 rfl ?_
  exact J_sub [0] (tX12_goesOn_252  ((nI 100) + l1) M) rfl
def xX12_goesOn_209   (s0 : Int32) (M : j_M) : Option (j_M) := oml (mw M 200 13 s0) fun M1 => some M1
set_option maxRecDepth 20000 in
set_option maxHeartbeats 2000000 in
theorem tX12_goesOn_209    (s0 : Int32) (M : j_M) : J (ρ := j_M) yX12_goesOn cX12_goesOn 2 none 7 182 j_ev 209 [] [.inl (s0), .inr (17, 0, 200)] M (xX12_goesOn_209  s0 M) := by
  unfold xX12_goesOn_209
  refine K_putI (q := 212) (ci := 7) 13 dX12_goesOn_209 fRX12_253 fp_7_13 rfl rfl (by decide) rfl (fun M1 => ?_)
  refine J_goto (tgt := 265) dX12_goesOn_212 rfl ?_
  exact J_vret dX12_goesOn_265
def xX12_goesOn_174 (k129 : j_M → Option (j_M))  (s0 : Int32) (M : j_M) : Option (j_M) := oml (mw M 200 15 s0) fun M1 => oli (M1 200 12) fun v2 => oml (mw M1 200 12 (v2 + (nI 1))) fun M3 => k129 M3
set_option maxRecDepth 20000 in
set_option maxHeartbeats 2000000 in
theorem tX12_goesOn_174 (k129 : j_M → Option (j_M))  (hk129 : ∀ (M : j_M), J (ρ := j_M) yX12_goesOn cX12_goesOn 2 none 7 182 j_ev 129 [(0, .inr (17, 0, 200))] [] M (k129  M)) (s0 : Int32) (M : j_M) : J (ρ := j_M) yX12_goesOn cX12_goesOn 2 none 7 182 j_ev 174 [(0, .inr (17, 0, 200))] [.inl (s0), .inr (17, 0, 200)] M (xX12_goesOn_174 k129 s0 M) := by
  unfold xX12_goesOn_174
  refine K_putI (q := 177) (ci := 7) 15 dX12_goesOn_174 fRX12_265 fp_7_15 rfl rfl (by decide) rfl (fun M1 => ?_)
  refine K_aload_n (q := 178) 0 dX12_goesOn_177 rfl rfl rfl ?_
  refine K_dup (q := 179) dX12_goesOn_178 rfl ?_
  refine K_getI (q := 182) (ci := 7) 12 dX12_goesOn_179 fRX12_203 rfl rfl rfl (fun v2 => ?_)
  refine K_iconst (q := 183) (v := nI 1) dX12_goesOn_182 rfl rfl ?_
  refine K_iadd (q := 184) dX12_goesOn_183 rfl ?_
  refine K_putI (q := 187) (ci := 7) 12 dX12_goesOn_184 fRX12_203 fp_7_12 rfl rfl (by decide) rfl (fun M3 => ?_)
  refine J_goto (tgt := 129) dX12_goesOn_187 rfl ?_
  exact J_sub [0] (hk129 M3) rfl
def xX12_goesOn_129   : Nat → j_M → Option (j_M)
  | 0, _ => none
  | n + 1, M => obi (xX12_isDigit M) fun v2 M1 => (if v2 = (0 : Int32) then oli (M1 200 12) fun v3 => oli (M1 200 14) fun v4 => (if (v3 - v4) ≤ (nI 4) then xX12_goesOn_209  (nI 2) M1 else xX12_goesOn_209  (nI 1) M1) else oli (M1 200 12) fun v5 => oli (M1 200 14) fun v6 => (if (nI 4) ≤ (v5 - v6) then xX12_goesOn_174 (xX12_goesOn_129  n) (nI 0) M1 else oli (M1 200 15) fun v7 => oli (M1 200 12) fun v8 => gd v8 400 (oli (M1 205 (ix v8)) fun v9 => xX12_goesOn_174 (xX12_goesOn_129  n) ((((nI 10) * v7) + v9) - (nI 48)) M1)))
set_option maxRecDepth 20000 in
set_option maxHeartbeats 2000000 in
theorem tX12_goesOn_129    : ∀ (n : Nat) (M : j_M), J (ρ := j_M) yX12_goesOn cX12_goesOn 2 none 7 182 j_ev 129 [(0, .inr (17, 0, 200))] [] M (xX12_goesOn_129  n  M) := by
  intro n
  induction n with
  | zero => intros; exact J_none
  | succ n ih =>
    intro  M
    rw [xX12_goesOn_129.eq_2]
    refine K_aload_n (q := 130) 0 dX12_goesOn_129 rfl rfl rfl ?_
    refine K_cvi (q := 133) [] dX12_goesOn_130 cb_X12_isDigit cvRX12_262 rc_7 (show (17 : Nat) ≠ 0 by decide) rfl (Nat.le_of_ble_eq_true rfl) ⟨by decide, by decide⟩ (Nat.le_of_ble_eq_true rfl) rfl (tX12_isDigit M) rfl (fun v2 M1 => ?_)
    refine K_if_eq (q := 136) (tgt := 190) dX12_goesOn_133 rfl ?_ rfl ?_
    · refine K_aload_n (q := 191) 0 dX12_goesOn_190 rfl rfl rfl ?_
      refine K_aload_n (q := 192) 0 dX12_goesOn_191 rfl rfl rfl ?_
      refine K_getI (q := 195) (ci := 7) 12 dX12_goesOn_192 fRX12_203 rfl rfl rfl (fun v3 => ?_)
      refine K_aload_n (q := 196) 0 dX12_goesOn_195 rfl rfl rfl ?_
      refine K_getI (q := 199) (ci := 7) 14 dX12_goesOn_196 fRX12_206 rfl rfl rfl (fun v4 => ?_)
      refine K_isub (q := 200) dX12_goesOn_199 rfl ?_
      refine K_iconst (q := 201) (v := nI 4) dX12_goesOn_200 rfl rfl ?_
      refine K_icmp_le (q := 204) (tgt := 208) dX12_goesOn_201 rfl ?_ rfl ?_
      · refine K_iconst (q := 209) (v := nI 2) dX12_goesOn_208 rfl rfl ?_
        exact J_sub [] (tX12_goesOn_209  (nI 2) M1) rfl
      · refine K_iconst (q := 205) (v := nI 1) dX12_goesOn_204 rfl rfl ?_
        refine J_goto (tgt := 209) dX12_goesOn_205 rfl ?_
        exact J_sub [] (tX12_goesOn_209  (nI 1) M1) rfl
    · refine K_aload_n (q := 137) 0 dX12_goesOn_136 rfl rfl rfl ?_
      refine K_aload_n (q := 138) 0 dX12_goesOn_137 rfl rfl rfl ?_
      refine K_getI (q := 141) (ci := 7) 12 dX12_goesOn_138 fRX12_203 rfl rfl rfl (fun v5 => ?_)
      refine K_aload_n (q := 142) 0 dX12_goesOn_141 rfl rfl rfl ?_
      refine K_getI (q := 145) (ci := 7) 14 dX12_goesOn_142 fRX12_206 rfl rfl rfl (fun v6 => ?_)
      refine K_isub (q := 146) dX12_goesOn_145 rfl ?_
      refine K_iconst (q := 147) (v := nI 4) dX12_goesOn_146 rfl rfl ?_
      refine K_icmp_ge (q := 150) (tgt := 173) dX12_goesOn_147 rfl ?_ rfl ?_
      · refine K_iconst (q := 174) (v := nI 0) dX12_goesOn_173 rfl rfl ?_
        exact J_sub [0] (tX12_goesOn_174 (xX12_goesOn_129  n) ih (nI 0) M1) rfl
      · refine K_bipush (q := 152) (v := nI 10) dX12_goesOn_150 rfl rfl ?_
        refine K_aload_n (q := 153) 0 dX12_goesOn_152 rfl rfl rfl ?_
        refine K_getI (q := 156) (ci := 7) 15 dX12_goesOn_153 fRX12_265 rfl rfl rfl (fun v7 => ?_)
        refine K_imul (q := 157) dX12_goesOn_156 rfl ?_
        refine K_aload_n (q := 158) 0 dX12_goesOn_157 rfl rfl rfl ?_
        refine K_getR (q := 161) (ci := 7) (a2 := 205) 5 dX12_goesOn_158 fRX12_22 rfl rfl (by decide) rfl rfl ?_
        refine K_aload_n (q := 162) 0 dX12_goesOn_161 rfl rfl rfl ?_
        refine K_getI (q := 165) (ci := 7) 12 dX12_goesOn_162 fRX12_203 rfl rfl rfl (fun v8 => ?_)
        refine K_bald (q := 166) dX12_goesOn_165 rfl (fun v9 => ?_)
        refine K_iadd (q := 167) dX12_goesOn_166 rfl ?_
        refine K_bipush (q := 169) (v := nI 48) dX12_goesOn_167 rfl rfl ?_
        refine K_isub (q := 170) dX12_goesOn_169 rfl ?_
        refine J_goto (tgt := 174) dX12_goesOn_170 rfl ?_
        exact J_sub [0] (tX12_goesOn_174 (xX12_goesOn_129  n) ih ((((nI 10) * v7) + v9) - (nI 48)) M1) rfl
def xX12_goesOn_86   : Nat → j_M → Option (j_M)
  | 0, _ => none
  | n + 1, M => obi (xX12_isLetter M) fun v2 M1 => (if v2 = (0 : Int32) then obi (xX12_wordOf M1) fun v4 M3 => oml (mw M3 200 13 v4) fun M5 => some M5 else oli (M1 200 12) fun v6 => oml (mw M1 200 12 (v6 + (nI 1))) fun M7 => xX12_goesOn_86  n M7)
set_option maxRecDepth 20000 in
set_option maxHeartbeats 2000000 in
theorem tX12_goesOn_86    : ∀ (n : Nat) (M : j_M), J (ρ := j_M) yX12_goesOn cX12_goesOn 2 none 7 182 j_ev 86 [(0, .inr (17, 0, 200))] [] M (xX12_goesOn_86  n  M) := by
  intro n
  induction n with
  | zero => intros; exact J_none
  | succ n ih =>
    intro  M
    rw [xX12_goesOn_86.eq_2]
    refine K_aload_n (q := 87) 0 dX12_goesOn_86 rfl rfl rfl ?_
    refine K_cvi (q := 90) [] dX12_goesOn_87 cb_X12_isLetter cvRX12_256 rc_7 (show (17 : Nat) ≠ 0 by decide) rfl (Nat.le_of_ble_eq_true rfl) ⟨by decide, by decide⟩ (Nat.le_of_ble_eq_true rfl) rfl (tX12_isLetter M) rfl (fun v2 M1 => ?_)
    refine K_if_eq (q := 93) (tgt := 106) dX12_goesOn_90 rfl ?_ rfl ?_
    · refine K_aload_n (q := 107) 0 dX12_goesOn_106 rfl rfl rfl ?_
      refine K_aload_n (q := 108) 0 dX12_goesOn_107 rfl rfl rfl ?_
      refine K_cvi (q := 111) [] dX12_goesOn_108 cb_X12_wordOf cvRX12_259 rc_7 (show (17 : Nat) ≠ 0 by decide) rfl (Nat.le_of_ble_eq_true rfl) ⟨by decide, by decide⟩ (Nat.le_of_ble_eq_true rfl) rfl (tX12_wordOf M1) rfl (fun v4 M3 => ?_)
      refine K_putI (q := 114) (ci := 7) 13 dX12_goesOn_111 fRX12_253 fp_7_13 rfl rfl (by decide) rfl (fun M5 => ?_)
      refine J_goto (tgt := 265) dX12_goesOn_114 rfl ?_
      exact J_vret dX12_goesOn_265
    · refine K_aload_n (q := 94) 0 dX12_goesOn_93 rfl rfl rfl ?_
      refine K_dup (q := 95) dX12_goesOn_94 rfl ?_
      refine K_getI (q := 98) (ci := 7) 12 dX12_goesOn_95 fRX12_203 rfl rfl rfl (fun v6 => ?_)
      refine K_iconst (q := 99) (v := nI 1) dX12_goesOn_98 rfl rfl ?_
      refine K_iadd (q := 100) dX12_goesOn_99 rfl ?_
      refine K_putI (q := 103) (ci := 7) 12 dX12_goesOn_100 fRX12_203 fp_7_12 rfl rfl (by decide) rfl (fun M7 => ?_)
      refine J_goto (tgt := 86) dX12_goesOn_103 rfl ?_
      exact J_sub [0] (ih M7) rfl
def xX12_goesOn_52    (M : j_M) : Option (j_M) := oli (M 200 12) fun v1 => oml (mw M 200 14 v1) fun M2 => oli (M2 200 12) fun v3 => oli (M2 200 11) fun v4 => (if v3 = v4 then oml (mw M2 200 13 (nI 0)) fun M12 => some M12 else obi (xX12_isLetter M2) fun v6 M5 => (if v6 = (0 : Int32) then obi (xX12_isDigit M5) fun v8 M7 => (if v8 = (0 : Int32) then oli (M7 200 12) fun v9 => gd v9 400 (oli (M7 205 (ix v9)) fun v10 => (if v10 = (nI 59) then xX12_goesOn_244  v10 M7 else (if v10 = (nI 123) then xX12_goesOn_244  v10 M7 else (if v10 = (nI 125) then xX12_goesOn_244  v10 M7 else xX12_goesOn_252  (nI 1) M7)))) else oml (mw M7 200 15 (nI 0)) fun M11 => xX12_goesOn_129 fu M11) else xX12_goesOn_86 fu M5))
set_option maxRecDepth 20000 in
set_option maxHeartbeats 2000000 in
theorem tX12_goesOn_52     (M : j_M) : J (ρ := j_M) yX12_goesOn cX12_goesOn 2 none 7 182 j_ev 52 [(0, .inr (17, 0, 200))] [] M (xX12_goesOn_52   M) := by
  unfold xX12_goesOn_52
  refine K_aload_n (q := 53) 0 dX12_goesOn_52 rfl rfl rfl ?_
  refine K_aload_n (q := 54) 0 dX12_goesOn_53 rfl rfl rfl ?_
  refine K_getI (q := 57) (ci := 7) 12 dX12_goesOn_54 fRX12_203 rfl rfl rfl (fun v1 => ?_)
  refine K_putI (q := 60) (ci := 7) 14 dX12_goesOn_57 fRX12_206 fp_7_14 rfl rfl (by decide) rfl (fun M2 => ?_)
  refine K_aload_n (q := 61) 0 dX12_goesOn_60 rfl rfl rfl ?_
  refine K_getI (q := 64) (ci := 7) 12 dX12_goesOn_61 fRX12_203 rfl rfl rfl (fun v3 => ?_)
  refine K_aload_n (q := 65) 0 dX12_goesOn_64 rfl rfl rfl ?_
  refine K_getI (q := 68) (ci := 7) 11 dX12_goesOn_65 fRX12_197 rfl rfl rfl (fun v4 => ?_)
  refine K_icmp_ne (q := 71) (tgt := 79) dX12_goesOn_68 rfl ?_ rfl ?_
  · refine K_aload_n (q := 80) 0 dX12_goesOn_79 rfl rfl rfl ?_
    refine K_cvi (q := 83) [] dX12_goesOn_80 cb_X12_isLetter cvRX12_256 rc_7 (show (17 : Nat) ≠ 0 by decide) rfl (Nat.le_of_ble_eq_true rfl) ⟨by decide, by decide⟩ (Nat.le_of_ble_eq_true rfl) rfl (tX12_isLetter M2) rfl (fun v6 M5 => ?_)
    refine K_if_eq (q := 86) (tgt := 117) dX12_goesOn_83 rfl ?_ rfl ?_
    · refine K_aload_n (q := 118) 0 dX12_goesOn_117 rfl rfl rfl ?_
      refine K_cvi (q := 121) [] dX12_goesOn_118 cb_X12_isDigit cvRX12_262 rc_7 (show (17 : Nat) ≠ 0 by decide) rfl (Nat.le_of_ble_eq_true rfl) ⟨by decide, by decide⟩ (Nat.le_of_ble_eq_true rfl) rfl (tX12_isDigit M5) rfl (fun v8 M7 => ?_)
      refine K_if_eq (q := 124) (tgt := 215) dX12_goesOn_121 rfl ?_ rfl ?_
      · refine K_aload_n (q := 216) 0 dX12_goesOn_215 rfl rfl rfl ?_
        refine K_getR (q := 219) (ci := 7) (a2 := 205) 5 dX12_goesOn_216 fRX12_22 rfl rfl (by decide) rfl rfl ?_
        refine K_aload_n (q := 220) 0 dX12_goesOn_219 rfl rfl rfl ?_
        refine K_getI (q := 223) (ci := 7) 12 dX12_goesOn_220 fRX12_203 rfl rfl rfl (fun v9 => ?_)
        refine K_bald (q := 224) dX12_goesOn_223 rfl (fun v10 => ?_)
        refine K_istore_n (q := 225) (ll' := [(1, .inl (v10)), (0, .inr (17, 0, 200))]) dX12_goesOn_224 rfl (by decide) rfl rfl ?_
        refine K_aload_n (q := 226) 1 dX12_goesOn_225 rfl rfl rfl ?_
        refine K_iload_n (q := 227) 0 dX12_goesOn_226 rfl rfl rfl ?_
        refine K_bipush (q := 229) (v := nI 59) dX12_goesOn_227 rfl rfl ?_
        refine K_icmp_eq (q := 232) (tgt := 244) dX12_goesOn_229 rfl ?_ rfl ?_
        · exact J_sub [1, 0] (tX12_goesOn_244  v10 M7) rfl
        · refine K_iload_n (q := 233) 0 dX12_goesOn_232 rfl rfl rfl ?_
          refine K_bipush (q := 235) (v := nI 123) dX12_goesOn_233 rfl rfl ?_
          refine K_icmp_eq (q := 238) (tgt := 244) dX12_goesOn_235 rfl ?_ rfl ?_
          · exact J_sub [1, 0] (tX12_goesOn_244  v10 M7) rfl
          · refine K_iload_n (q := 239) 0 dX12_goesOn_238 rfl rfl rfl ?_
            refine K_bipush (q := 241) (v := nI 125) dX12_goesOn_239 rfl rfl ?_
            refine K_icmp_ne (q := 244) (tgt := 251) dX12_goesOn_241 rfl ?_ rfl ?_
            · refine K_iconst (q := 252) (v := nI 1) dX12_goesOn_251 rfl rfl ?_
              exact J_sub [1] (tX12_goesOn_252  (nI 1) M7) rfl
            · exact J_sub [1, 0] (tX12_goesOn_244  v10 M7) rfl
      · refine K_aload_n (q := 125) 0 dX12_goesOn_124 rfl rfl rfl ?_
        refine K_iconst (q := 126) (v := nI 0) dX12_goesOn_125 rfl rfl ?_
        refine K_putI (q := 129) (ci := 7) 15 dX12_goesOn_126 fRX12_265 fp_7_15 rfl rfl (by decide) rfl (fun M11 => ?_)
        exact J_sub [0] (tX12_goesOn_129 fu M11) rfl
    · exact J_sub [0] (tX12_goesOn_86 fu M5) rfl
  · refine K_aload_n (q := 72) 0 dX12_goesOn_71 rfl rfl rfl ?_
    refine K_iconst (q := 73) (v := nI 0) dX12_goesOn_72 rfl rfl ?_
    refine K_putI (q := 76) (ci := 7) 13 dX12_goesOn_73 fRX12_253 fp_7_13 rfl rfl (by decide) rfl (fun M12 => ?_)
    refine J_goto (tgt := 265) dX12_goesOn_76 rfl ?_
    exact J_vret dX12_goesOn_265
def xX12_goesOn_39 (k0 : j_M → Option (j_M))   (M : j_M) : Option (j_M) := oli (M 200 12) fun v1 => oml (mw M 200 12 (v1 + (nI 1))) fun M2 => k0 M2
set_option maxRecDepth 20000 in
set_option maxHeartbeats 2000000 in
theorem tX12_goesOn_39 (k0 : j_M → Option (j_M))  (hk0 : ∀ (M : j_M), J (ρ := j_M) yX12_goesOn cX12_goesOn 2 none 7 182 j_ev 0 [(0, .inr (17, 0, 200))] [] M (k0  M))  (M : j_M) : J (ρ := j_M) yX12_goesOn cX12_goesOn 2 none 7 182 j_ev 39 [(0, .inr (17, 0, 200))] [] M (xX12_goesOn_39 k0  M) := by
  unfold xX12_goesOn_39
  refine K_aload_n (q := 40) 0 dX12_goesOn_39 rfl rfl rfl ?_
  refine K_dup (q := 41) dX12_goesOn_40 rfl ?_
  refine K_getI (q := 44) (ci := 7) 12 dX12_goesOn_41 fRX12_203 rfl rfl rfl (fun v1 => ?_)
  refine K_iconst (q := 45) (v := nI 1) dX12_goesOn_44 rfl rfl ?_
  refine K_iadd (q := 46) dX12_goesOn_45 rfl ?_
  refine K_putI (q := 49) (ci := 7) 12 dX12_goesOn_46 fRX12_203 fp_7_12 rfl rfl (by decide) rfl (fun M2 => ?_)
  refine J_goto (tgt := 0) dX12_goesOn_49 rfl ?_
  exact J_sub [0] (hk0 M2) rfl
def xX12_goesOn_0   : Nat → j_M → Option (j_M)
  | 0, _ => none
  | n + 1, M => oli (M 200 12) fun v1 => oli (M 200 11) fun v2 => (if v2 ≤ v1 then xX12_goesOn_52  M else oli (M 200 12) fun v3 => gd v3 400 (oli (M 205 (ix v3)) fun v4 => (if v4 = (nI 32) then xX12_goesOn_39 (xX12_goesOn_0  n) M else oli (M 200 12) fun v5 => gd v5 400 (oli (M 205 (ix v5)) fun v6 => (if v6 = (nI 10) then xX12_goesOn_39 (xX12_goesOn_0  n) M else xX12_goesOn_52  M)))))
set_option maxRecDepth 20000 in
set_option maxHeartbeats 2000000 in
theorem tX12_goesOn_0    : ∀ (n : Nat) (M : j_M), J (ρ := j_M) yX12_goesOn cX12_goesOn 2 none 7 182 j_ev 0 [(0, .inr (17, 0, 200))] [] M (xX12_goesOn_0  n  M) := by
  intro n
  induction n with
  | zero => intros; exact J_none
  | succ n ih =>
    intro  M
    rw [xX12_goesOn_0.eq_2]
    refine K_aload_n (q := 1) 0 dX12_goesOn_0 rfl rfl rfl ?_
    refine K_getI (q := 4) (ci := 7) 12 dX12_goesOn_1 fRX12_203 rfl rfl rfl (fun v1 => ?_)
    refine K_aload_n (q := 5) 0 dX12_goesOn_4 rfl rfl rfl ?_
    refine K_getI (q := 8) (ci := 7) 11 dX12_goesOn_5 fRX12_197 rfl rfl rfl (fun v2 => ?_)
    refine K_icmp_ge (q := 11) (tgt := 52) dX12_goesOn_8 rfl ?_ rfl ?_
    · exact J_sub [0] (tX12_goesOn_52  M) rfl
    · refine K_aload_n (q := 12) 0 dX12_goesOn_11 rfl rfl rfl ?_
      refine K_getR (q := 15) (ci := 7) (a2 := 205) 5 dX12_goesOn_12 fRX12_22 rfl rfl (by decide) rfl rfl ?_
      refine K_aload_n (q := 16) 0 dX12_goesOn_15 rfl rfl rfl ?_
      refine K_getI (q := 19) (ci := 7) 12 dX12_goesOn_16 fRX12_203 rfl rfl rfl (fun v3 => ?_)
      refine K_bald (q := 20) dX12_goesOn_19 rfl (fun v4 => ?_)
      refine K_bipush (q := 22) (v := nI 32) dX12_goesOn_20 rfl rfl ?_
      refine K_icmp_eq (q := 25) (tgt := 39) dX12_goesOn_22 rfl ?_ rfl ?_
      · exact J_sub [0] (tX12_goesOn_39 (xX12_goesOn_0  n) ih M) rfl
      · refine K_aload_n (q := 26) 0 dX12_goesOn_25 rfl rfl rfl ?_
        refine K_getR (q := 29) (ci := 7) (a2 := 205) 5 dX12_goesOn_26 fRX12_22 rfl rfl (by decide) rfl rfl ?_
        refine K_aload_n (q := 30) 0 dX12_goesOn_29 rfl rfl rfl ?_
        refine K_getI (q := 33) (ci := 7) 12 dX12_goesOn_30 fRX12_203 rfl rfl rfl (fun v5 => ?_)
        refine K_bald (q := 34) dX12_goesOn_33 rfl (fun v6 => ?_)
        refine K_bipush (q := 36) (v := nI 10) dX12_goesOn_34 rfl rfl ?_
        refine K_icmp_ne (q := 39) (tgt := 52) dX12_goesOn_36 rfl ?_ rfl ?_
        · exact J_sub [0] (tX12_goesOn_52  M) rfl
        · exact J_sub [0] (tX12_goesOn_39 (xX12_goesOn_0  n) ih M) rfl
def xX12_goesOn   (M : j_M) : Option (j_M) := xX12_goesOn_0 fu M
set_option maxRecDepth 20000 in
set_option maxHeartbeats 2000000 in
theorem tX12_goesOn   (M : j_M) : J (ρ := j_M) yX12_goesOn cX12_goesOn 2 none 7 182 j_ev 0 [(0, .inr (17, 0, 200))] [] M (xX12_goesOn   M) := by
  unfold xX12_goesOn
  exact J_sub [0] (tX12_goesOn_0 fu M) rfl
theorem dX12_closes_0 : decode cX12_closes 0 = .ok (.aload_n 0, 1) := by decide +kernel
theorem dX12_closes_1 : decode cX12_closes 1 = .ok (.getfield 283, 3) := by decide +kernel
theorem dX12_closes_4 : decode cX12_closes 4 = .ok (.ifCond .ne 9, 3) := by decide +kernel
theorem dX12_closes_7 : decode cX12_closes 7 = .ok (.aload_n 0, 1) := by decide +kernel
theorem dX12_closes_8 : decode cX12_closes 8 = .ok (.iconst 1, 1) := by decide +kernel
theorem dX12_closes_9 : decode cX12_closes 9 = .ok (.invokevirtual 274, 3) := by decide +kernel
theorem dX12_closes_12 : decode cX12_closes 12 = .ok (.ireturn, 1) := by decide +kernel
theorem dX12_closes_13 : decode cX12_closes 13 = .ok (.aload_n 0, 1) := by decide +kernel
theorem dX12_closes_14 : decode cX12_closes 14 = .ok (.dup, 1) := by decide +kernel
theorem dX12_closes_15 : decode cX12_closes 15 = .ok (.getfield 283, 3) := by decide +kernel
theorem dX12_closes_18 : decode cX12_closes 18 = .ok (.iconst 1, 1) := by decide +kernel
theorem dX12_closes_19 : decode cX12_closes 19 = .ok (.isub, 1) := by decide +kernel
theorem dX12_closes_20 : decode cX12_closes 20 = .ok (.putfield 283, 3) := by decide +kernel
theorem dX12_closes_23 : decode cX12_closes 23 = .ok (.aload_n 0, 1) := by decide +kernel
theorem dX12_closes_24 : decode cX12_closes 24 = .ok (.getfield 26, 3) := by decide +kernel
theorem dX12_closes_27 : decode cX12_closes 27 = .ok (.iconst 4, 1) := by decide +kernel
theorem dX12_closes_28 : decode cX12_closes 28 = .ok (.aload_n 0, 1) := by decide +kernel
theorem dX12_closes_29 : decode cX12_closes 29 = .ok (.getfield 29, 3) := by decide +kernel
theorem dX12_closes_32 : decode cX12_closes 32 = .ok (.aload_n 0, 1) := by decide +kernel
theorem dX12_closes_33 : decode cX12_closes 33 = .ok (.getfield 283, 3) := by decide +kernel
theorem dX12_closes_36 : decode cX12_closes 36 = .ok (.iaload, 1) := by decide +kernel
theorem dX12_closes_37 : decode cX12_closes 37 = .ok (.imul, 1) := by decide +kernel
theorem dX12_closes_38 : decode cX12_closes 38 = .ok (.iconst 3, 1) := by decide +kernel
theorem dX12_closes_39 : decode cX12_closes 39 = .ok (.iadd, 1) := by decide +kernel
theorem dX12_closes_40 : decode cX12_closes 40 = .ok (.aload_n 0, 1) := by decide +kernel
theorem dX12_closes_41 : decode cX12_closes 41 = .ok (.getfield 280, 3) := by decide +kernel
theorem dX12_closes_44 : decode cX12_closes 44 = .ok (.iastore, 1) := by decide +kernel
theorem dX12_closes_45 : decode cX12_closes 45 = .ok (.aload_n 0, 1) := by decide +kernel
theorem dX12_closes_46 : decode cX12_closes 46 = .ok (.invokevirtual 277, 3) := by decide +kernel
theorem dX12_closes_49 : decode cX12_closes 49 = .ok (.iconst 1, 1) := by decide +kernel
theorem dX12_closes_50 : decode cX12_closes 50 = .ok (.ireturn, 1) := by decide +kernel
def xX12_closes   (M : j_M) : Option (Int32 × j_M) := oli (M 200 17) fun v1 => (if v1 = (0 : Int32) then obi (xX12_bad (nI 1) M) fun v10 M9 => gz v10 (some (v10, M9)) else oli (M 200 17) fun v2 => oml (mw M 200 17 (v2 - (nI 1))) fun M3 => oli (M3 200 17) fun v4 => gd v4 3 (oli (M3 207 (ix v4)) fun v5 => oli (M3 200 16) fun v6 => gd (((nI 4) * v5) + (nI 3)) 1600 (oml (mw M3 206 (ix (((nI 4) * v5) + (nI 3))) v6) fun M7 => obv (xX12_goesOn M7) fun M8 => some ((nI 1), M8))))
set_option maxRecDepth 20000 in
set_option maxHeartbeats 2000000 in
theorem tX12_closes   (M : j_M) : J (ρ := Int32 × j_M) yX12_closes cX12_closes 1 (some .boolean) 8 203 j_ei 0 [(0, .inr (17, 0, 200))] [] M (xX12_closes   M) := by
  unfold xX12_closes
  refine K_aload_n (q := 1) 0 dX12_closes_0 rfl rfl rfl ?_
  refine K_getI (q := 4) (ci := 7) 17 dX12_closes_1 fRX12_283 rfl rfl rfl (fun v1 => ?_)
  refine K_if_ne (q := 7) (tgt := 13) dX12_closes_4 rfl ?_ rfl ?_
  · refine K_aload_n (q := 14) 0 dX12_closes_13 rfl rfl rfl ?_
    refine K_dup (q := 15) dX12_closes_14 rfl ?_
    refine K_getI (q := 18) (ci := 7) 17 dX12_closes_15 fRX12_283 rfl rfl rfl (fun v2 => ?_)
    refine K_iconst (q := 19) (v := nI 1) dX12_closes_18 rfl rfl ?_
    refine K_isub (q := 20) dX12_closes_19 rfl ?_
    refine K_putI (q := 23) (ci := 7) 17 dX12_closes_20 fRX12_283 fp_7_17 rfl rfl (by decide) rfl (fun M3 => ?_)
    refine K_aload_n (q := 24) 0 dX12_closes_23 rfl rfl rfl ?_
    refine K_getR (q := 27) (ci := 7) (a2 := 206) 6 dX12_closes_24 fRX12_26 rfl rfl (by decide) rfl rfl ?_
    refine K_iconst (q := 28) (v := nI 4) dX12_closes_27 rfl rfl ?_
    refine K_aload_n (q := 29) 0 dX12_closes_28 rfl rfl rfl ?_
    refine K_getR (q := 32) (ci := 7) (a2 := 207) 7 dX12_closes_29 fRX12_29 rfl rfl (by decide) rfl rfl ?_
    refine K_aload_n (q := 33) 0 dX12_closes_32 rfl rfl rfl ?_
    refine K_getI (q := 36) (ci := 7) 17 dX12_closes_33 fRX12_283 rfl rfl rfl (fun v4 => ?_)
    refine K_iald (q := 37) dX12_closes_36 rfl (fun v5 => ?_)
    refine K_imul (q := 38) dX12_closes_37 rfl ?_
    refine K_iconst (q := 39) (v := nI 3) dX12_closes_38 rfl rfl ?_
    refine K_iadd (q := 40) dX12_closes_39 rfl ?_
    refine K_aload_n (q := 41) 0 dX12_closes_40 rfl rfl rfl ?_
    refine K_getI (q := 44) (ci := 7) 16 dX12_closes_41 fRX12_280 rfl rfl rfl (fun v6 => ?_)
    refine K_iast (q := 45) dX12_closes_44 rfl (fun M7 => ?_)
    refine K_aload_n (q := 46) 0 dX12_closes_45 rfl rfl rfl ?_
    refine K_cvv (q := 49) [] dX12_closes_46 cb_X12_goesOn cvRX12_277 rc_7 (show (17 : Nat) ≠ 0 by decide) rfl (Nat.le_of_ble_eq_true rfl) ⟨by decide, by decide⟩ (Nat.le_of_ble_eq_true rfl) rfl (tX12_goesOn M7) rfl (fun M8 => ?_)
    refine K_iconst (q := 50) (v := nI 1) dX12_closes_49 rfl rfl ?_
    exact J_zret dX12_closes_50 (by decide)
  · refine K_aload_n (q := 8) 0 dX12_closes_7 rfl rfl rfl ?_
    refine K_iconst (q := 9) (v := nI 1) dX12_closes_8 rfl rfl ?_
    refine K_cvi (q := 12) [.inl ((nI 1))] dX12_closes_9 cb_X12_bad cvRX12_274 rc_7 (show (17 : Nat) ≠ 0 by decide) rfl (Nat.le_of_ble_eq_true rfl) ⟨by decide, by decide⟩ (Nat.le_of_ble_eq_true rfl) rfl (tX12_bad (nI 1) M) rfl (fun v10 M9 => ?_)
    exact J_zretG dX12_closes_12
theorem dX12_need_0 : decode cX12_need 0 = .ok (.aload_n 0, 1) := by decide +kernel
theorem dX12_need_1 : decode cX12_need 1 = .ok (.getfield 253, 3) := by decide +kernel
theorem dX12_need_4 : decode cX12_need 4 = .ok (.iload_n 1, 1) := by decide +kernel
theorem dX12_need_5 : decode cX12_need 5 = .ok (.if_icmp .eq 9, 3) := by decide +kernel
theorem dX12_need_8 : decode cX12_need 8 = .ok (.aload_n 0, 1) := by decide +kernel
theorem dX12_need_9 : decode cX12_need 9 = .ok (.iconst 1, 1) := by decide +kernel
theorem dX12_need_10 : decode cX12_need 10 = .ok (.invokevirtual 274, 3) := by decide +kernel
theorem dX12_need_13 : decode cX12_need 13 = .ok (.ireturn, 1) := by decide +kernel
theorem dX12_need_14 : decode cX12_need 14 = .ok (.aload_n 0, 1) := by decide +kernel
theorem dX12_need_15 : decode cX12_need 15 = .ok (.invokevirtual 277, 3) := by decide +kernel
theorem dX12_need_18 : decode cX12_need 18 = .ok (.iconst 1, 1) := by decide +kernel
theorem dX12_need_19 : decode cX12_need 19 = .ok (.ireturn, 1) := by decide +kernel
def xX12_need  (l1 : Int32) (M : j_M) : Option (Int32 × j_M) := oli (M 200 13) fun v1 => (if v1 = l1 then obv (xX12_goesOn M) fun M2 => some ((nI 1), M2) else obi (xX12_bad (nI 1) M) fun v4 M3 => gz v4 (some (v4, M3)))
set_option maxRecDepth 20000 in
set_option maxHeartbeats 2000000 in
theorem tX12_need  (l1 : Int32) (M : j_M) : J (ρ := Int32 × j_M) yX12_need cX12_need 2 (some .boolean) 8 203 j_ei 0 [(0, .inr (17, 0, 200)), (1, .inl (l1))] [] M (xX12_need  l1 M) := by
  unfold xX12_need
  refine K_aload_n (q := 1) 0 dX12_need_0 rfl rfl rfl ?_
  refine K_getI (q := 4) (ci := 7) 13 dX12_need_1 fRX12_253 rfl rfl rfl (fun v1 => ?_)
  refine K_iload_n (q := 5) 1 dX12_need_4 rfl rfl rfl ?_
  refine K_icmp_eq (q := 8) (tgt := 14) dX12_need_5 rfl ?_ rfl ?_
  · refine K_aload_n (q := 15) 0 dX12_need_14 rfl rfl rfl ?_
    refine K_cvv (q := 18) [] dX12_need_15 cb_X12_goesOn cvRX12_277 rc_7 (show (17 : Nat) ≠ 0 by decide) rfl (Nat.le_of_ble_eq_true rfl) ⟨by decide, by decide⟩ (Nat.le_of_ble_eq_true rfl) rfl (tX12_goesOn M) rfl (fun M2 => ?_)
    refine K_iconst (q := 19) (v := nI 1) dX12_need_18 rfl rfl ?_
    exact J_zret dX12_need_19 (by decide)
  · refine K_aload_n (q := 9) 0 dX12_need_8 rfl rfl rfl ?_
    refine K_iconst (q := 10) (v := nI 1) dX12_need_9 rfl rfl ?_
    refine K_cvi (q := 13) [.inl ((nI 1))] dX12_need_10 cb_X12_bad cvRX12_274 rc_7 (show (17 : Nat) ≠ 0 by decide) rfl (Nat.le_of_ble_eq_true rfl) ⟨by decide, by decide⟩ (Nat.le_of_ble_eq_true rfl) rfl (tX12_bad (nI 1) M) rfl (fun v4 M3 => ?_)
    exact J_zretG dX12_need_13
theorem dX12_number_0 : decode cX12_number 0 = .ok (.aload_n 0, 1) := by decide +kernel
theorem dX12_number_1 : decode cX12_number 1 = .ok (.getfield 253, 3) := by decide +kernel
theorem dX12_number_4 : decode cX12_number 4 = .ok (.iconst 2, 1) := by decide +kernel
theorem dX12_number_5 : decode cX12_number 5 = .ok (.if_icmp .eq 9, 3) := by decide +kernel
theorem dX12_number_8 : decode cX12_number 8 = .ok (.aload_n 0, 1) := by decide +kernel
theorem dX12_number_9 : decode cX12_number 9 = .ok (.iconst 1, 1) := by decide +kernel
theorem dX12_number_10 : decode cX12_number 10 = .ok (.invokevirtual 274, 3) := by decide +kernel
theorem dX12_number_13 : decode cX12_number 13 = .ok (.ireturn, 1) := by decide +kernel
theorem dX12_number_14 : decode cX12_number 14 = .ok (.aload_n 0, 1) := by decide +kernel
theorem dX12_number_15 : decode cX12_number 15 = .ok (.getfield 265, 3) := by decide +kernel
theorem dX12_number_18 : decode cX12_number 18 = .ok (.iload_n 2, 1) := by decide +kernel
theorem dX12_number_19 : decode cX12_number 19 = .ok (.iload_n 3, 1) := by decide +kernel
theorem dX12_number_20 : decode cX12_number 20 = .ok (.invokestatic 65, 3) := by decide +kernel
theorem dX12_number_23 : decode cX12_number 23 = .ok (.ifCond .ne 9, 3) := by decide +kernel
theorem dX12_number_26 : decode cX12_number 26 = .ok (.aload_n 0, 1) := by decide +kernel
theorem dX12_number_27 : decode cX12_number 27 = .ok (.iconst 2, 1) := by decide +kernel
theorem dX12_number_28 : decode cX12_number 28 = .ok (.invokevirtual 274, 3) := by decide +kernel
theorem dX12_number_31 : decode cX12_number 31 = .ok (.ireturn, 1) := by decide +kernel
theorem dX12_number_32 : decode cX12_number 32 = .ok (.aload_n 0, 1) := by decide +kernel
theorem dX12_number_33 : decode cX12_number 33 = .ok (.getfield 26, 3) := by decide +kernel
theorem dX12_number_36 : decode cX12_number 36 = .ok (.iconst 4, 1) := by decide +kernel
theorem dX12_number_37 : decode cX12_number 37 = .ok (.aload_n 0, 1) := by decide +kernel
theorem dX12_number_38 : decode cX12_number 38 = .ok (.getfield 280, 3) := by decide +kernel
theorem dX12_number_41 : decode cX12_number 41 = .ok (.imul, 1) := by decide +kernel
theorem dX12_number_42 : decode cX12_number 42 = .ok (.iload_n 1, 1) := by decide +kernel
theorem dX12_number_43 : decode cX12_number 43 = .ok (.iadd, 1) := by decide +kernel
theorem dX12_number_44 : decode cX12_number 44 = .ok (.aload_n 0, 1) := by decide +kernel
theorem dX12_number_45 : decode cX12_number 45 = .ok (.getfield 265, 3) := by decide +kernel
theorem dX12_number_48 : decode cX12_number 48 = .ok (.iastore, 1) := by decide +kernel
theorem dX12_number_49 : decode cX12_number 49 = .ok (.aload_n 0, 1) := by decide +kernel
theorem dX12_number_50 : decode cX12_number 50 = .ok (.invokevirtual 277, 3) := by decide +kernel
theorem dX12_number_53 : decode cX12_number 53 = .ok (.iconst 1, 1) := by decide +kernel
theorem dX12_number_54 : decode cX12_number 54 = .ok (.ireturn, 1) := by decide +kernel
def xX12_number  (l1 : Int32) (l2 : Int32) (l3 : Int32) (M : j_M) : Option (Int32 × j_M) := oli (M 200 13) fun v1 => (if v1 = (nI 2) then oli (M 200 15) fun v2 => obi (xX12_isIn v2 l2 l3 M) fun v4 M3 => (if v4 = (0 : Int32) then obi (xX12_bad (nI 2) M3) fun v10 M9 => gz v10 (some (v10, M9)) else oli (M3 200 16) fun v5 => oli (M3 200 15) fun v6 => gd (((nI 4) * v5) + l1) 1600 (oml (mw M3 206 (ix (((nI 4) * v5) + l1)) v6) fun M7 => obv (xX12_goesOn M7) fun M8 => some ((nI 1), M8))) else obi (xX12_bad (nI 1) M) fun v12 M11 => gz v12 (some (v12, M11)))
set_option maxRecDepth 20000 in
set_option maxHeartbeats 2000000 in
theorem tX12_number  (l1 : Int32) (l2 : Int32) (l3 : Int32) (M : j_M) : J (ρ := Int32 × j_M) yX12_number cX12_number 4 (some .boolean) 8 203 j_ei 0 [(0, .inr (17, 0, 200)), (1, .inl (l1)), (2, .inl (l2)), (3, .inl (l3))] [] M (xX12_number  l1 l2 l3 M) := by
  unfold xX12_number
  refine K_aload_n (q := 1) 0 dX12_number_0 rfl rfl rfl ?_
  refine K_getI (q := 4) (ci := 7) 13 dX12_number_1 fRX12_253 rfl rfl rfl (fun v1 => ?_)
  refine K_iconst (q := 5) (v := nI 2) dX12_number_4 rfl rfl ?_
  refine K_icmp_eq (q := 8) (tgt := 14) dX12_number_5 rfl ?_ rfl ?_
  · refine K_aload_n (q := 15) 0 dX12_number_14 rfl rfl rfl ?_
    refine K_getI (q := 18) (ci := 7) 15 dX12_number_15 fRX12_265 rfl rfl rfl (fun v2 => ?_)
    refine K_iload_n (q := 19) 2 dX12_number_18 rfl rfl rfl ?_
    refine K_iload_n (q := 20) 3 dX12_number_19 rfl rfl rfl ?_
    refine K_csi (q := 23) [.inl (v2), .inl (l2), .inl (l3)] dX12_number_20 cb_X12_isIn cvRX12_65 rfl (Nat.le_of_ble_eq_true rfl) ⟨by decide, by decide⟩ (Nat.le_of_ble_eq_true rfl) rfl (tX12_isIn v2 l2 l3 M) rfl (fun v4 M3 => ?_)
    refine K_if_ne (q := 26) (tgt := 32) dX12_number_23 rfl ?_ rfl ?_
    · refine K_aload_n (q := 33) 0 dX12_number_32 rfl rfl rfl ?_
      refine K_getR (q := 36) (ci := 7) (a2 := 206) 6 dX12_number_33 fRX12_26 rfl rfl (by decide) rfl rfl ?_
      refine K_iconst (q := 37) (v := nI 4) dX12_number_36 rfl rfl ?_
      refine K_aload_n (q := 38) 0 dX12_number_37 rfl rfl rfl ?_
      refine K_getI (q := 41) (ci := 7) 16 dX12_number_38 fRX12_280 rfl rfl rfl (fun v5 => ?_)
      refine K_imul (q := 42) dX12_number_41 rfl ?_
      refine K_iload_n (q := 43) 1 dX12_number_42 rfl rfl rfl ?_
      refine K_iadd (q := 44) dX12_number_43 rfl ?_
      refine K_aload_n (q := 45) 0 dX12_number_44 rfl rfl rfl ?_
      refine K_getI (q := 48) (ci := 7) 15 dX12_number_45 fRX12_265 rfl rfl rfl (fun v6 => ?_)
      refine K_iast (q := 49) dX12_number_48 rfl (fun M7 => ?_)
      refine K_aload_n (q := 50) 0 dX12_number_49 rfl rfl rfl ?_
      refine K_cvv (q := 53) [] dX12_number_50 cb_X12_goesOn cvRX12_277 rc_7 (show (17 : Nat) ≠ 0 by decide) rfl (Nat.le_of_ble_eq_true rfl) ⟨by decide, by decide⟩ (Nat.le_of_ble_eq_true rfl) rfl (tX12_goesOn M7) rfl (fun M8 => ?_)
      refine K_iconst (q := 54) (v := nI 1) dX12_number_53 rfl rfl ?_
      exact J_zret dX12_number_54 (by decide)
    · refine K_aload_n (q := 27) 0 dX12_number_26 rfl rfl rfl ?_
      refine K_iconst (q := 28) (v := nI 2) dX12_number_27 rfl rfl ?_
      refine K_cvi (q := 31) [.inl ((nI 2))] dX12_number_28 cb_X12_bad cvRX12_274 rc_7 (show (17 : Nat) ≠ 0 by decide) rfl (Nat.le_of_ble_eq_true rfl) ⟨by decide, by decide⟩ (Nat.le_of_ble_eq_true rfl) rfl (tX12_bad (nI 2) M3) rfl (fun v10 M9 => ?_)
      exact J_zretG dX12_number_31
  · refine K_aload_n (q := 9) 0 dX12_number_8 rfl rfl rfl ?_
    refine K_iconst (q := 10) (v := nI 1) dX12_number_9 rfl rfl ?_
    refine K_cvi (q := 13) [.inl ((nI 1))] dX12_number_10 cb_X12_bad cvRX12_274 rc_7 (show (17 : Nat) ≠ 0 by decide) rfl (Nat.le_of_ble_eq_true rfl) ⟨by decide, by decide⟩ (Nat.le_of_ble_eq_true rfl) rfl (tX12_bad (nI 1) M) rfl (fun v12 M11 => ?_)
    exact J_zretG dX12_number_13
theorem dX12_opens_0 : decode cX12_opens 0 = .ok (.aload_n 0, 1) := by decide +kernel
theorem dX12_opens_1 : decode cX12_opens 1 = .ok (.getfield 283, 3) := by decide +kernel
theorem dX12_opens_4 : decode cX12_opens 4 = .ok (.iconst 3, 1) := by decide +kernel
theorem dX12_opens_5 : decode cX12_opens 5 = .ok (.if_icmp .ne 9, 3) := by decide +kernel
theorem dX12_opens_8 : decode cX12_opens 8 = .ok (.aload_n 0, 1) := by decide +kernel
theorem dX12_opens_9 : decode cX12_opens 9 = .ok (.iconst 3, 1) := by decide +kernel
theorem dX12_opens_10 : decode cX12_opens 10 = .ok (.invokevirtual 274, 3) := by decide +kernel
theorem dX12_opens_13 : decode cX12_opens 13 = .ok (.ireturn, 1) := by decide +kernel
theorem dX12_opens_14 : decode cX12_opens 14 = .ok (.aload_n 0, 1) := by decide +kernel
theorem dX12_opens_15 : decode cX12_opens 15 = .ok (.getfield 26, 3) := by decide +kernel
theorem dX12_opens_18 : decode cX12_opens 18 = .ok (.iconst 4, 1) := by decide +kernel
theorem dX12_opens_19 : decode cX12_opens 19 = .ok (.aload_n 0, 1) := by decide +kernel
theorem dX12_opens_20 : decode cX12_opens 20 = .ok (.getfield 280, 3) := by decide +kernel
theorem dX12_opens_23 : decode cX12_opens 23 = .ok (.imul, 1) := by decide +kernel
theorem dX12_opens_24 : decode cX12_opens 24 = .ok (.iconst 4, 1) := by decide +kernel
theorem dX12_opens_25 : decode cX12_opens 25 = .ok (.iastore, 1) := by decide +kernel
theorem dX12_opens_26 : decode cX12_opens 26 = .ok (.aload_n 0, 1) := by decide +kernel
theorem dX12_opens_27 : decode cX12_opens 27 = .ok (.invokevirtual 277, 3) := by decide +kernel
theorem dX12_opens_30 : decode cX12_opens 30 = .ok (.aload_n 0, 1) := by decide +kernel
theorem dX12_opens_31 : decode cX12_opens 31 = .ok (.iconst 1, 1) := by decide +kernel
theorem dX12_opens_32 : decode cX12_opens 32 = .ok (.iconst 1, 1) := by decide +kernel
theorem dX12_opens_33 : decode cX12_opens 33 = .ok (.bipush 9, 2) := by decide +kernel
theorem dX12_opens_35 : decode cX12_opens 35 = .ok (.invokevirtual 286, 3) := by decide +kernel
theorem dX12_opens_38 : decode cX12_opens 38 = .ok (.ifCond .eq 13, 3) := by decide +kernel
theorem dX12_opens_41 : decode cX12_opens 41 = .ok (.aload_n 0, 1) := by decide +kernel
theorem dX12_opens_42 : decode cX12_opens 42 = .ok (.sipush 223, 3) := by decide +kernel
theorem dX12_opens_45 : decode cX12_opens 45 = .ok (.invokevirtual 289, 3) := by decide +kernel
theorem dX12_opens_48 : decode cX12_opens 48 = .ok (.ifCond .ne 5, 3) := by decide +kernel
theorem dX12_opens_51 : decode cX12_opens 51 = .ok (.iconst 0, 1) := by decide +kernel
theorem dX12_opens_52 : decode cX12_opens 52 = .ok (.ireturn, 1) := by decide +kernel
theorem dX12_opens_53 : decode cX12_opens 53 = .ok (.aload_n 0, 1) := by decide +kernel
theorem dX12_opens_54 : decode cX12_opens 54 = .ok (.getfield 29, 3) := by decide +kernel
theorem dX12_opens_57 : decode cX12_opens 57 = .ok (.aload_n 0, 1) := by decide +kernel
theorem dX12_opens_58 : decode cX12_opens 58 = .ok (.getfield 283, 3) := by decide +kernel
theorem dX12_opens_61 : decode cX12_opens 61 = .ok (.aload_n 0, 1) := by decide +kernel
theorem dX12_opens_62 : decode cX12_opens 62 = .ok (.getfield 280, 3) := by decide +kernel
theorem dX12_opens_65 : decode cX12_opens 65 = .ok (.iastore, 1) := by decide +kernel
theorem dX12_opens_66 : decode cX12_opens 66 = .ok (.aload_n 0, 1) := by decide +kernel
theorem dX12_opens_67 : decode cX12_opens 67 = .ok (.dup, 1) := by decide +kernel
theorem dX12_opens_68 : decode cX12_opens 68 = .ok (.getfield 283, 3) := by decide +kernel
theorem dX12_opens_71 : decode cX12_opens 71 = .ok (.iconst 1, 1) := by decide +kernel
theorem dX12_opens_72 : decode cX12_opens 72 = .ok (.iadd, 1) := by decide +kernel
theorem dX12_opens_73 : decode cX12_opens 73 = .ok (.putfield 283, 3) := by decide +kernel
theorem dX12_opens_76 : decode cX12_opens 76 = .ok (.iconst 1, 1) := by decide +kernel
theorem dX12_opens_77 : decode cX12_opens 77 = .ok (.ireturn, 1) := by decide +kernel
def xX12_opens   (M : j_M) : Option (Int32 × j_M) := oli (M 200 17) fun v1 => (if v1 = (nI 3) then obi (xX12_bad (nI 3) M) fun v15 M14 => gz v15 (some (v15, M14)) else oli (M 200 16) fun v2 => gd ((nI 4) * v2) 1600 (oml (mw M 206 (ix ((nI 4) * v2)) (nI 4)) fun M3 => obv (xX12_goesOn M3) fun M4 => obi (xX12_number (nI 1) (nI 1) (nI 9) M4) fun v6 M5 => (if v6 = (0 : Int32) then some ((nI 0), M5) else obi (xX12_need (nI 223) M5) fun v8 M7 => (if v8 = (0 : Int32) then some ((nI 0), M7) else oli (M7 200 17) fun v9 => oli (M7 200 16) fun v10 => gd v9 3 (oml (mw M7 207 (ix v9) v10) fun M11 => oli (M11 200 17) fun v12 => oml (mw M11 200 17 (v12 + (nI 1))) fun M13 => some ((nI 1), M13))))))
set_option maxRecDepth 20000 in
set_option maxHeartbeats 2000000 in
theorem tX12_opens   (M : j_M) : J (ρ := Int32 × j_M) yX12_opens cX12_opens 1 (some .boolean) 9 226 j_ei 0 [(0, .inr (17, 0, 200))] [] M (xX12_opens   M) := by
  unfold xX12_opens
  refine K_aload_n (q := 1) 0 dX12_opens_0 rfl rfl rfl ?_
  refine K_getI (q := 4) (ci := 7) 17 dX12_opens_1 fRX12_283 rfl rfl rfl (fun v1 => ?_)
  refine K_iconst (q := 5) (v := nI 3) dX12_opens_4 rfl rfl ?_
  refine K_icmp_ne (q := 8) (tgt := 14) dX12_opens_5 rfl ?_ rfl ?_
  · refine K_aload_n (q := 15) 0 dX12_opens_14 rfl rfl rfl ?_
    refine K_getR (q := 18) (ci := 7) (a2 := 206) 6 dX12_opens_15 fRX12_26 rfl rfl (by decide) rfl rfl ?_
    refine K_iconst (q := 19) (v := nI 4) dX12_opens_18 rfl rfl ?_
    refine K_aload_n (q := 20) 0 dX12_opens_19 rfl rfl rfl ?_
    refine K_getI (q := 23) (ci := 7) 16 dX12_opens_20 fRX12_280 rfl rfl rfl (fun v2 => ?_)
    refine K_imul (q := 24) dX12_opens_23 rfl ?_
    refine K_iconst (q := 25) (v := nI 4) dX12_opens_24 rfl rfl ?_
    refine K_iast (q := 26) dX12_opens_25 rfl (fun M3 => ?_)
    refine K_aload_n (q := 27) 0 dX12_opens_26 rfl rfl rfl ?_
    refine K_cvv (q := 30) [] dX12_opens_27 cb_X12_goesOn cvRX12_277 rc_7 (show (17 : Nat) ≠ 0 by decide) rfl (Nat.le_of_ble_eq_true rfl) ⟨by decide, by decide⟩ (Nat.le_of_ble_eq_true rfl) rfl (tX12_goesOn M3) rfl (fun M4 => ?_)
    refine K_aload_n (q := 31) 0 dX12_opens_30 rfl rfl rfl ?_
    refine K_iconst (q := 32) (v := nI 1) dX12_opens_31 rfl rfl ?_
    refine K_iconst (q := 33) (v := nI 1) dX12_opens_32 rfl rfl ?_
    refine K_bipush (q := 35) (v := nI 9) dX12_opens_33 rfl rfl ?_
    refine K_cvi (q := 38) [.inl ((nI 1)), .inl ((nI 1)), .inl ((nI 9))] dX12_opens_35 cb_X12_number cvRX12_286 rc_7 (show (17 : Nat) ≠ 0 by decide) rfl (Nat.le_of_ble_eq_true rfl) ⟨by decide, by decide⟩ (Nat.le_of_ble_eq_true rfl) rfl (tX12_number (nI 1) (nI 1) (nI 9) M4) rfl (fun v6 M5 => ?_)
    refine K_if_eq (q := 41) (tgt := 51) dX12_opens_38 rfl ?_ rfl ?_
    · refine K_iconst (q := 52) (v := nI 0) dX12_opens_51 rfl rfl ?_
      exact J_zret dX12_opens_52 (by decide)
    · refine K_aload_n (q := 42) 0 dX12_opens_41 rfl rfl rfl ?_
      refine K_sipush (q := 45) (v := nI 223) dX12_opens_42 rfl rfl ?_
      refine K_cvi (q := 48) [.inl ((nI 223))] dX12_opens_45 cb_X12_need cvRX12_289 rc_7 (show (17 : Nat) ≠ 0 by decide) rfl (Nat.le_of_ble_eq_true rfl) ⟨by decide, by decide⟩ (Nat.le_of_ble_eq_true rfl) rfl (tX12_need (nI 223) M5) rfl (fun v8 M7 => ?_)
      refine K_if_ne (q := 51) (tgt := 53) dX12_opens_48 rfl ?_ rfl ?_
      · refine K_aload_n (q := 54) 0 dX12_opens_53 rfl rfl rfl ?_
        refine K_getR (q := 57) (ci := 7) (a2 := 207) 7 dX12_opens_54 fRX12_29 rfl rfl (by decide) rfl rfl ?_
        refine K_aload_n (q := 58) 0 dX12_opens_57 rfl rfl rfl ?_
        refine K_getI (q := 61) (ci := 7) 17 dX12_opens_58 fRX12_283 rfl rfl rfl (fun v9 => ?_)
        refine K_aload_n (q := 62) 0 dX12_opens_61 rfl rfl rfl ?_
        refine K_getI (q := 65) (ci := 7) 16 dX12_opens_62 fRX12_280 rfl rfl rfl (fun v10 => ?_)
        refine K_iast (q := 66) dX12_opens_65 rfl (fun M11 => ?_)
        refine K_aload_n (q := 67) 0 dX12_opens_66 rfl rfl rfl ?_
        refine K_dup (q := 68) dX12_opens_67 rfl ?_
        refine K_getI (q := 71) (ci := 7) 17 dX12_opens_68 fRX12_283 rfl rfl rfl (fun v12 => ?_)
        refine K_iconst (q := 72) (v := nI 1) dX12_opens_71 rfl rfl ?_
        refine K_iadd (q := 73) dX12_opens_72 rfl ?_
        refine K_putI (q := 76) (ci := 7) 17 dX12_opens_73 fRX12_283 fp_7_17 rfl rfl (by decide) rfl (fun M13 => ?_)
        refine K_iconst (q := 77) (v := nI 1) dX12_opens_76 rfl rfl ?_
        exact J_zret dX12_opens_77 (by decide)
      · refine K_iconst (q := 52) (v := nI 0) dX12_opens_51 rfl rfl ?_
        exact J_zret dX12_opens_52 (by decide)
  · refine K_aload_n (q := 9) 0 dX12_opens_8 rfl rfl rfl ?_
    refine K_iconst (q := 10) (v := nI 3) dX12_opens_9 rfl rfl ?_
    refine K_cvi (q := 13) [.inl ((nI 3))] dX12_opens_10 cb_X12_bad cvRX12_274 rc_7 (show (17 : Nat) ≠ 0 by decide) rfl (Nat.le_of_ble_eq_true rfl) ⟨by decide, by decide⟩ (Nat.le_of_ble_eq_true rfl) rfl (tX12_bad (nI 3) M) rfl (fun v15 M14 => ?_)
    exact J_zretG dX12_opens_13
theorem dX12_oneOf_0 : decode cX12_oneOf 0 = .ok (.aload_n 0, 1) := by decide +kernel
theorem dX12_oneOf_1 : decode cX12_oneOf 1 = .ok (.getfield 253, 3) := by decide +kernel
theorem dX12_oneOf_4 : decode cX12_oneOf 4 = .ok (.istore_n 1, 1) := by decide +kernel
theorem dX12_oneOf_5 : decode cX12_oneOf 5 = .ok (.iload_n 1, 1) := by decide +kernel
theorem dX12_oneOf_6 : decode cX12_oneOf 6 = .ok (.bipush 7, 2) := by decide +kernel
theorem dX12_oneOf_8 : decode cX12_oneOf 8 = .ok (.if_icmp .ne 8, 3) := by decide +kernel
theorem dX12_oneOf_11 : decode cX12_oneOf 11 = .ok (.aload_n 0, 1) := by decide +kernel
theorem dX12_oneOf_12 : decode cX12_oneOf 12 = .ok (.invokevirtual 292, 3) := by decide +kernel
theorem dX12_oneOf_15 : decode cX12_oneOf 15 = .ok (.ireturn, 1) := by decide +kernel
theorem dX12_oneOf_16 : decode cX12_oneOf 16 = .ok (.aload_n 0, 1) := by decide +kernel
theorem dX12_oneOf_17 : decode cX12_oneOf 17 = .ok (.invokevirtual 277, 3) := by decide +kernel
theorem dX12_oneOf_20 : decode cX12_oneOf 20 = .ok (.aload_n 0, 1) := by decide +kernel
theorem dX12_oneOf_21 : decode cX12_oneOf 21 = .ok (.getfield 26, 3) := by decide +kernel
theorem dX12_oneOf_24 : decode cX12_oneOf 24 = .ok (.iconst 4, 1) := by decide +kernel
theorem dX12_oneOf_25 : decode cX12_oneOf 25 = .ok (.aload_n 0, 1) := by decide +kernel
theorem dX12_oneOf_26 : decode cX12_oneOf 26 = .ok (.getfield 280, 3) := by decide +kernel
theorem dX12_oneOf_29 : decode cX12_oneOf 29 = .ok (.imul, 1) := by decide +kernel
theorem dX12_oneOf_30 : decode cX12_oneOf 30 = .ok (.iload_n 1, 1) := by decide +kernel
theorem dX12_oneOf_31 : decode cX12_oneOf 31 = .ok (.iconst 3, 1) := by decide +kernel
theorem dX12_oneOf_32 : decode cX12_oneOf 32 = .ok (.isub, 1) := by decide +kernel
theorem dX12_oneOf_33 : decode cX12_oneOf 33 = .ok (.iastore, 1) := by decide +kernel
theorem dX12_oneOf_34 : decode cX12_oneOf 34 = .ok (.iload_n 1, 1) := by decide +kernel
theorem dX12_oneOf_35 : decode cX12_oneOf 35 = .ok (.bipush 6, 2) := by decide +kernel
theorem dX12_oneOf_37 : decode cX12_oneOf 37 = .ok (.if_icmp .ne 30, 3) := by decide +kernel
theorem dX12_oneOf_40 : decode cX12_oneOf 40 = .ok (.aload_n 0, 1) := by decide +kernel
theorem dX12_oneOf_41 : decode cX12_oneOf 41 = .ok (.iconst 1, 1) := by decide +kernel
theorem dX12_oneOf_42 : decode cX12_oneOf 42 = .ok (.iconst 1, 1) := by decide +kernel
theorem dX12_oneOf_43 : decode cX12_oneOf 43 = .ok (.bipush 9, 2) := by decide +kernel
theorem dX12_oneOf_45 : decode cX12_oneOf 45 = .ok (.invokevirtual 286, 3) := by decide +kernel
theorem dX12_oneOf_48 : decode cX12_oneOf 48 = .ok (.ifCond .eq 17, 3) := by decide +kernel
theorem dX12_oneOf_51 : decode cX12_oneOf 51 = .ok (.aload_n 0, 1) := by decide +kernel
theorem dX12_oneOf_52 : decode cX12_oneOf 52 = .ok (.sipush 159, 3) := by decide +kernel
theorem dX12_oneOf_55 : decode cX12_oneOf 55 = .ok (.invokevirtual 289, 3) := by decide +kernel
theorem dX12_oneOf_58 : decode cX12_oneOf 58 = .ok (.ifCond .eq 7, 3) := by decide +kernel
theorem dX12_oneOf_61 : decode cX12_oneOf 61 = .ok (.iconst 1, 1) := by decide +kernel
theorem dX12_oneOf_62 : decode cX12_oneOf 62 = .ok (.goto 4, 3) := by decide +kernel
theorem dX12_oneOf_65 : decode cX12_oneOf 65 = .ok (.iconst 0, 1) := by decide +kernel
theorem dX12_oneOf_66 : decode cX12_oneOf 66 = .ok (.ireturn, 1) := by decide +kernel
theorem dX12_oneOf_67 : decode cX12_oneOf 67 = .ok (.aload_n 0, 1) := by decide +kernel
theorem dX12_oneOf_68 : decode cX12_oneOf 68 = .ok (.iconst 1, 1) := by decide +kernel
theorem dX12_oneOf_69 : decode cX12_oneOf 69 = .ok (.iconst 0, 1) := by decide +kernel
theorem dX12_oneOf_70 : decode cX12_oneOf 70 = .ok (.bipush 7, 2) := by decide +kernel
theorem dX12_oneOf_72 : decode cX12_oneOf 72 = .ok (.invokevirtual 286, 3) := by decide +kernel
theorem dX12_oneOf_75 : decode cX12_oneOf 75 = .ok (.ifCond .ne 5, 3) := by decide +kernel
theorem dX12_oneOf_78 : decode cX12_oneOf 78 = .ok (.iconst 0, 1) := by decide +kernel
theorem dX12_oneOf_79 : decode cX12_oneOf 79 = .ok (.ireturn, 1) := by decide +kernel
theorem dX12_oneOf_80 : decode cX12_oneOf 80 = .ok (.iload_n 1, 1) := by decide +kernel
theorem dX12_oneOf_81 : decode cX12_oneOf 81 = .ok (.iconst 3, 1) := by decide +kernel
theorem dX12_oneOf_82 : decode cX12_oneOf 82 = .ok (.if_icmp .eq 15, 3) := by decide +kernel
theorem dX12_oneOf_85 : decode cX12_oneOf 85 = .ok (.aload_n 0, 1) := by decide +kernel
theorem dX12_oneOf_86 : decode cX12_oneOf 86 = .ok (.iconst 2, 1) := by decide +kernel
theorem dX12_oneOf_87 : decode cX12_oneOf 87 = .ok (.iconst 0, 1) := by decide +kernel
theorem dX12_oneOf_88 : decode cX12_oneOf 88 = .ok (.sipush 9999, 3) := by decide +kernel
theorem dX12_oneOf_91 : decode cX12_oneOf 91 = .ok (.invokevirtual 286, 3) := by decide +kernel
theorem dX12_oneOf_94 : decode cX12_oneOf 94 = .ok (.ifCond .eq 17, 3) := by decide +kernel
theorem dX12_oneOf_97 : decode cX12_oneOf 97 = .ok (.aload_n 0, 1) := by decide +kernel
theorem dX12_oneOf_98 : decode cX12_oneOf 98 = .ok (.sipush 159, 3) := by decide +kernel
theorem dX12_oneOf_101 : decode cX12_oneOf 101 = .ok (.invokevirtual 289, 3) := by decide +kernel
theorem dX12_oneOf_104 : decode cX12_oneOf 104 = .ok (.ifCond .eq 7, 3) := by decide +kernel
theorem dX12_oneOf_107 : decode cX12_oneOf 107 = .ok (.iconst 1, 1) := by decide +kernel
theorem dX12_oneOf_108 : decode cX12_oneOf 108 = .ok (.goto 4, 3) := by decide +kernel
theorem dX12_oneOf_111 : decode cX12_oneOf 111 = .ok (.iconst 0, 1) := by decide +kernel
theorem dX12_oneOf_112 : decode cX12_oneOf 112 = .ok (.ireturn, 1) := by decide +kernel
def xX12_oneOf_97    (M : j_M) : Option (Int32 × j_M) := obi (xX12_need (nI 159) M) fun v2 M1 => (if v2 = (0 : Int32) then some ((nI 0), M1) else some ((nI 1), M1))
set_option maxRecDepth 20000 in
set_option maxHeartbeats 2000000 in
theorem tX12_oneOf_97     (M : j_M) : J (ρ := Int32 × j_M) yX12_oneOf cX12_oneOf 2 (some .boolean) 10 246 j_ei 97 [(0, .inr (17, 0, 200))] [] M (xX12_oneOf_97   M) := by
  unfold xX12_oneOf_97
  refine K_aload_n (q := 98) 0 dX12_oneOf_97 rfl rfl rfl ?_
  refine K_sipush (q := 101) (v := nI 159) dX12_oneOf_98 rfl rfl ?_
  refine K_cvi (q := 104) [.inl ((nI 159))] dX12_oneOf_101 cb_X12_need cvRX12_289 rc_7 (show (17 : Nat) ≠ 0 by decide) rfl (Nat.le_of_ble_eq_true rfl) ⟨by decide, by decide⟩ (Nat.le_of_ble_eq_true rfl) rfl (tX12_need (nI 159) M) rfl (fun v2 M1 => ?_)
  refine K_if_eq (q := 107) (tgt := 111) dX12_oneOf_104 rfl ?_ rfl ?_
  · refine K_iconst (q := 112) (v := nI 0) dX12_oneOf_111 rfl rfl ?_
    exact J_zret dX12_oneOf_112 (by decide)
  · refine K_iconst (q := 108) (v := nI 1) dX12_oneOf_107 rfl rfl ?_
    refine J_goto (tgt := 112) dX12_oneOf_108 rfl ?_
    exact J_zret dX12_oneOf_112 (by decide)
def xX12_oneOf   (M : j_M) : Option (Int32 × j_M) := oli (M 200 13) fun v1 => (if v1 = (nI 7) then obi (xX12_opens M) fun v14 M13 => gz v14 (some (v14, M13)) else obv (xX12_goesOn M) fun M2 => oli (M2 200 16) fun v3 => gd ((nI 4) * v3) 1600 (oml (mw M2 206 (ix ((nI 4) * v3)) (v1 - (nI 3))) fun M4 => (if v1 = (nI 6) then obi (xX12_number (nI 1) (nI 1) (nI 9) M4) fun v10 M9 => (if v10 = (0 : Int32) then some ((nI 0), M9) else obi (xX12_need (nI 159) M9) fun v12 M11 => (if v12 = (0 : Int32) then some ((nI 0), M11) else some ((nI 1), M11))) else obi (xX12_number (nI 1) (nI 0) (nI 7) M4) fun v6 M5 => (if v6 = (0 : Int32) then some ((nI 0), M5) else (if v1 = (nI 3) then xX12_oneOf_97  M5 else obi (xX12_number (nI 2) (nI 0) (nI 9999) M5) fun v8 M7 => (if v8 = (0 : Int32) then some ((nI 0), M7) else xX12_oneOf_97  M7))))))
set_option maxRecDepth 20000 in
set_option maxHeartbeats 2000000 in
theorem tX12_oneOf   (M : j_M) : J (ρ := Int32 × j_M) yX12_oneOf cX12_oneOf 2 (some .boolean) 10 246 j_ei 0 [(0, .inr (17, 0, 200))] [] M (xX12_oneOf   M) := by
  unfold xX12_oneOf
  refine K_aload_n (q := 1) 0 dX12_oneOf_0 rfl rfl rfl ?_
  refine K_getI (q := 4) (ci := 7) 13 dX12_oneOf_1 fRX12_253 rfl rfl rfl (fun v1 => ?_)
  refine K_istore_n (q := 5) (ll' := [(1, .inl (v1)), (0, .inr (17, 0, 200))]) dX12_oneOf_4 rfl (by decide) rfl rfl ?_
  refine K_iload_n (q := 6) 0 dX12_oneOf_5 rfl rfl rfl ?_
  refine K_bipush (q := 8) (v := nI 7) dX12_oneOf_6 rfl rfl ?_
  refine K_icmp_ne (q := 11) (tgt := 16) dX12_oneOf_8 rfl ?_ rfl ?_
  · refine K_aload_n (q := 17) 1 dX12_oneOf_16 rfl rfl rfl ?_
    refine K_cvv (q := 20) [] dX12_oneOf_17 cb_X12_goesOn cvRX12_277 rc_7 (show (17 : Nat) ≠ 0 by decide) rfl (Nat.le_of_ble_eq_true rfl) ⟨by decide, by decide⟩ (Nat.le_of_ble_eq_true rfl) rfl (tX12_goesOn M) rfl (fun M2 => ?_)
    refine K_aload_n (q := 21) 1 dX12_oneOf_20 rfl rfl rfl ?_
    refine K_getR (q := 24) (ci := 7) (a2 := 206) 6 dX12_oneOf_21 fRX12_26 rfl rfl (by decide) rfl rfl ?_
    refine K_iconst (q := 25) (v := nI 4) dX12_oneOf_24 rfl rfl ?_
    refine K_aload_n (q := 26) 1 dX12_oneOf_25 rfl rfl rfl ?_
    refine K_getI (q := 29) (ci := 7) 16 dX12_oneOf_26 fRX12_280 rfl rfl rfl (fun v3 => ?_)
    refine K_imul (q := 30) dX12_oneOf_29 rfl ?_
    refine K_iload_n (q := 31) 0 dX12_oneOf_30 rfl rfl rfl ?_
    refine K_iconst (q := 32) (v := nI 3) dX12_oneOf_31 rfl rfl ?_
    refine K_isub (q := 33) dX12_oneOf_32 rfl ?_
    refine K_iast (q := 34) dX12_oneOf_33 rfl (fun M4 => ?_)
    refine K_iload_n (q := 35) 0 dX12_oneOf_34 rfl rfl rfl ?_
    refine K_bipush (q := 37) (v := nI 6) dX12_oneOf_35 rfl rfl ?_
    refine K_icmp_ne (q := 40) (tgt := 67) dX12_oneOf_37 rfl ?_ rfl ?_
    · refine K_aload_n (q := 68) 1 dX12_oneOf_67 rfl rfl rfl ?_
      refine K_iconst (q := 69) (v := nI 1) dX12_oneOf_68 rfl rfl ?_
      refine K_iconst (q := 70) (v := nI 0) dX12_oneOf_69 rfl rfl ?_
      refine K_bipush (q := 72) (v := nI 7) dX12_oneOf_70 rfl rfl ?_
      refine K_cvi (q := 75) [.inl ((nI 1)), .inl ((nI 0)), .inl ((nI 7))] dX12_oneOf_72 cb_X12_number cvRX12_286 rc_7 (show (17 : Nat) ≠ 0 by decide) rfl (Nat.le_of_ble_eq_true rfl) ⟨by decide, by decide⟩ (Nat.le_of_ble_eq_true rfl) rfl (tX12_number (nI 1) (nI 0) (nI 7) M4) rfl (fun v6 M5 => ?_)
      refine K_if_ne (q := 78) (tgt := 80) dX12_oneOf_75 rfl ?_ rfl ?_
      · refine K_iload_n (q := 81) 0 dX12_oneOf_80 rfl rfl rfl ?_
        refine K_iconst (q := 82) (v := nI 3) dX12_oneOf_81 rfl rfl ?_
        refine K_icmp_eq (q := 85) (tgt := 97) dX12_oneOf_82 rfl ?_ rfl ?_
        · exact J_sub [1] (tX12_oneOf_97  M5) rfl
        · refine K_aload_n (q := 86) 1 dX12_oneOf_85 rfl rfl rfl ?_
          refine K_iconst (q := 87) (v := nI 2) dX12_oneOf_86 rfl rfl ?_
          refine K_iconst (q := 88) (v := nI 0) dX12_oneOf_87 rfl rfl ?_
          refine K_sipush (q := 91) (v := nI 9999) dX12_oneOf_88 rfl rfl ?_
          refine K_cvi (q := 94) [.inl ((nI 2)), .inl ((nI 0)), .inl ((nI 9999))] dX12_oneOf_91 cb_X12_number cvRX12_286 rc_7 (show (17 : Nat) ≠ 0 by decide) rfl (Nat.le_of_ble_eq_true rfl) ⟨by decide, by decide⟩ (Nat.le_of_ble_eq_true rfl) rfl (tX12_number (nI 2) (nI 0) (nI 9999) M5) rfl (fun v8 M7 => ?_)
          refine K_if_eq (q := 97) (tgt := 111) dX12_oneOf_94 rfl ?_ rfl ?_
          · refine K_iconst (q := 112) (v := nI 0) dX12_oneOf_111 rfl rfl ?_
            exact J_zret dX12_oneOf_112 (by decide)
          · exact J_sub [1] (tX12_oneOf_97  M7) rfl
      · refine K_iconst (q := 79) (v := nI 0) dX12_oneOf_78 rfl rfl ?_
        exact J_zret dX12_oneOf_79 (by decide)
    · refine K_aload_n (q := 41) 1 dX12_oneOf_40 rfl rfl rfl ?_
      refine K_iconst (q := 42) (v := nI 1) dX12_oneOf_41 rfl rfl ?_
      refine K_iconst (q := 43) (v := nI 1) dX12_oneOf_42 rfl rfl ?_
      refine K_bipush (q := 45) (v := nI 9) dX12_oneOf_43 rfl rfl ?_
      refine K_cvi (q := 48) [.inl ((nI 1)), .inl ((nI 1)), .inl ((nI 9))] dX12_oneOf_45 cb_X12_number cvRX12_286 rc_7 (show (17 : Nat) ≠ 0 by decide) rfl (Nat.le_of_ble_eq_true rfl) ⟨by decide, by decide⟩ (Nat.le_of_ble_eq_true rfl) rfl (tX12_number (nI 1) (nI 1) (nI 9) M4) rfl (fun v10 M9 => ?_)
      refine K_if_eq (q := 51) (tgt := 65) dX12_oneOf_48 rfl ?_ rfl ?_
      · refine K_iconst (q := 66) (v := nI 0) dX12_oneOf_65 rfl rfl ?_
        exact J_zret dX12_oneOf_66 (by decide)
      · refine K_aload_n (q := 52) 1 dX12_oneOf_51 rfl rfl rfl ?_
        refine K_sipush (q := 55) (v := nI 159) dX12_oneOf_52 rfl rfl ?_
        refine K_cvi (q := 58) [.inl ((nI 159))] dX12_oneOf_55 cb_X12_need cvRX12_289 rc_7 (show (17 : Nat) ≠ 0 by decide) rfl (Nat.le_of_ble_eq_true rfl) ⟨by decide, by decide⟩ (Nat.le_of_ble_eq_true rfl) rfl (tX12_need (nI 159) M9) rfl (fun v12 M11 => ?_)
        refine K_if_eq (q := 61) (tgt := 65) dX12_oneOf_58 rfl ?_ rfl ?_
        · refine K_iconst (q := 66) (v := nI 0) dX12_oneOf_65 rfl rfl ?_
          exact J_zret dX12_oneOf_66 (by decide)
        · refine K_iconst (q := 62) (v := nI 1) dX12_oneOf_61 rfl rfl ?_
          refine J_goto (tgt := 66) dX12_oneOf_62 rfl ?_
          exact J_zret dX12_oneOf_66 (by decide)
  · refine K_aload_n (q := 12) 1 dX12_oneOf_11 rfl rfl rfl ?_
    refine K_cvi (q := 15) [] dX12_oneOf_12 cb_X12_opens cvRX12_292 rc_7 (show (17 : Nat) ≠ 0 by decide) rfl (Nat.le_of_ble_eq_true rfl) ⟨by decide, by decide⟩ (Nat.le_of_ble_eq_true rfl) rfl (tX12_opens M) rfl (fun v14 M13 => ?_)
    exact J_zretG dX12_oneOf_15
theorem dX12_readsAll_0 : decode cX12_readsAll 0 = .ok (.aload_n 0, 1) := by decide +kernel
theorem dX12_readsAll_1 : decode cX12_readsAll 1 = .ok (.iconst 0, 1) := by decide +kernel
theorem dX12_readsAll_2 : decode cX12_readsAll 2 = .ok (.putfield 280, 3) := by decide +kernel
theorem dX12_readsAll_5 : decode cX12_readsAll 5 = .ok (.aload_n 0, 1) := by decide +kernel
theorem dX12_readsAll_6 : decode cX12_readsAll 6 = .ok (.iconst 0, 1) := by decide +kernel
theorem dX12_readsAll_7 : decode cX12_readsAll 7 = .ok (.putfield 283, 3) := by decide +kernel
theorem dX12_readsAll_10 : decode cX12_readsAll 10 = .ok (.aload_n 0, 1) := by decide +kernel
theorem dX12_readsAll_11 : decode cX12_readsAll 11 = .ok (.iconst 0, 1) := by decide +kernel
theorem dX12_readsAll_12 : decode cX12_readsAll 12 = .ok (.putfield 203, 3) := by decide +kernel
theorem dX12_readsAll_15 : decode cX12_readsAll 15 = .ok (.aload_n 0, 1) := by decide +kernel
theorem dX12_readsAll_16 : decode cX12_readsAll 16 = .ok (.invokevirtual 277, 3) := by decide +kernel
theorem dX12_readsAll_19 : decode cX12_readsAll 19 = .ok (.aload_n 0, 1) := by decide +kernel
theorem dX12_readsAll_20 : decode cX12_readsAll 20 = .ok (.getfield 253, 3) := by decide +kernel
theorem dX12_readsAll_23 : decode cX12_readsAll 23 = .ok (.ifCond .ne 10, 3) := by decide +kernel
theorem dX12_readsAll_26 : decode cX12_readsAll 26 = .ok (.aload_n 0, 1) := by decide +kernel
theorem dX12_readsAll_27 : decode cX12_readsAll 27 = .ok (.getfield 283, 3) := by decide +kernel
theorem dX12_readsAll_30 : decode cX12_readsAll 30 = .ok (.ifCond .le 77, 3) := by decide +kernel
theorem dX12_readsAll_33 : decode cX12_readsAll 33 = .ok (.aload_n 0, 1) := by decide +kernel
theorem dX12_readsAll_34 : decode cX12_readsAll 34 = .ok (.getfield 253, 3) := by decide +kernel
theorem dX12_readsAll_37 : decode cX12_readsAll 37 = .ok (.sipush 225, 3) := by decide +kernel
theorem dX12_readsAll_40 : decode cX12_readsAll 40 = .ok (.if_icmp .ne 12, 3) := by decide +kernel
theorem dX12_readsAll_43 : decode cX12_readsAll 43 = .ok (.aload_n 0, 1) := by decide +kernel
theorem dX12_readsAll_44 : decode cX12_readsAll 44 = .ok (.invokevirtual 295, 3) := by decide +kernel
theorem dX12_readsAll_47 : decode cX12_readsAll 47 = .ok (.ifCond .ne (-28), 3) := by decide +kernel
theorem dX12_readsAll_50 : decode cX12_readsAll 50 = .ok (.iconst 0, 1) := by decide +kernel
theorem dX12_readsAll_51 : decode cX12_readsAll 51 = .ok (.ireturn, 1) := by decide +kernel
theorem dX12_readsAll_52 : decode cX12_readsAll 52 = .ok (.aload_n 0, 1) := by decide +kernel
theorem dX12_readsAll_53 : decode cX12_readsAll 53 = .ok (.getfield 253, 3) := by decide +kernel
theorem dX12_readsAll_56 : decode cX12_readsAll 56 = .ok (.iconst 3, 1) := by decide +kernel
theorem dX12_readsAll_57 : decode cX12_readsAll 57 = .ok (.bipush 7, 2) := by decide +kernel
theorem dX12_readsAll_59 : decode cX12_readsAll 59 = .ok (.invokestatic 65, 3) := by decide +kernel
theorem dX12_readsAll_62 : decode cX12_readsAll 62 = .ok (.ifCond .ne 9, 3) := by decide +kernel
theorem dX12_readsAll_65 : decode cX12_readsAll 65 = .ok (.aload_n 0, 1) := by decide +kernel
theorem dX12_readsAll_66 : decode cX12_readsAll 66 = .ok (.iconst 1, 1) := by decide +kernel
theorem dX12_readsAll_67 : decode cX12_readsAll 67 = .ok (.invokevirtual 274, 3) := by decide +kernel
theorem dX12_readsAll_70 : decode cX12_readsAll 70 = .ok (.ireturn, 1) := by decide +kernel
theorem dX12_readsAll_71 : decode cX12_readsAll 71 = .ok (.aload_n 0, 1) := by decide +kernel
theorem dX12_readsAll_72 : decode cX12_readsAll 72 = .ok (.getfield 26, 3) := by decide +kernel
theorem dX12_readsAll_75 : decode cX12_readsAll 75 = .ok (.iconst 4, 1) := by decide +kernel
theorem dX12_readsAll_76 : decode cX12_readsAll 76 = .ok (.aload_n 0, 1) := by decide +kernel
theorem dX12_readsAll_77 : decode cX12_readsAll 77 = .ok (.getfield 280, 3) := by decide +kernel
theorem dX12_readsAll_80 : decode cX12_readsAll 80 = .ok (.imul, 1) := by decide +kernel
theorem dX12_readsAll_81 : decode cX12_readsAll 81 = .ok (.iconst 2, 1) := by decide +kernel
theorem dX12_readsAll_82 : decode cX12_readsAll 82 = .ok (.iadd, 1) := by decide +kernel
theorem dX12_readsAll_83 : decode cX12_readsAll 83 = .ok (.iconst 0, 1) := by decide +kernel
theorem dX12_readsAll_84 : decode cX12_readsAll 84 = .ok (.iastore, 1) := by decide +kernel
theorem dX12_readsAll_85 : decode cX12_readsAll 85 = .ok (.aload_n 0, 1) := by decide +kernel
theorem dX12_readsAll_86 : decode cX12_readsAll 86 = .ok (.invokevirtual 298, 3) := by decide +kernel
theorem dX12_readsAll_89 : decode cX12_readsAll 89 = .ok (.ifCond .ne 5, 3) := by decide +kernel
theorem dX12_readsAll_92 : decode cX12_readsAll 92 = .ok (.iconst 0, 1) := by decide +kernel
theorem dX12_readsAll_93 : decode cX12_readsAll 93 = .ok (.ireturn, 1) := by decide +kernel
theorem dX12_readsAll_94 : decode cX12_readsAll 94 = .ok (.aload_n 0, 1) := by decide +kernel
theorem dX12_readsAll_95 : decode cX12_readsAll 95 = .ok (.dup, 1) := by decide +kernel
theorem dX12_readsAll_96 : decode cX12_readsAll 96 = .ok (.getfield 280, 3) := by decide +kernel
theorem dX12_readsAll_99 : decode cX12_readsAll 99 = .ok (.iconst 1, 1) := by decide +kernel
theorem dX12_readsAll_100 : decode cX12_readsAll 100 = .ok (.iadd, 1) := by decide +kernel
theorem dX12_readsAll_101 : decode cX12_readsAll 101 = .ok (.putfield 280, 3) := by decide +kernel
theorem dX12_readsAll_104 : decode cX12_readsAll 104 = .ok (.goto (-85), 3) := by decide +kernel
theorem dX12_readsAll_107 : decode cX12_readsAll 107 = .ok (.iconst 1, 1) := by decide +kernel
theorem dX12_readsAll_108 : decode cX12_readsAll 108 = .ok (.ireturn, 1) := by decide +kernel
def xX12_readsAll_33 (k19 : j_M → Option (Int32 × j_M))   (M : j_M) : Option (Int32 × j_M) := oli (M 200 13) fun v1 => (if v1 = (nI 225) then obi (xX12_closes M) fun v14 M13 => (if v14 = (0 : Int32) then some ((nI 0), M13) else k19 M13) else oli (M 200 13) fun v2 => obi (xX12_isIn v2 (nI 3) (nI 7) M) fun v4 M3 => (if v4 = (0 : Int32) then obi (xX12_bad (nI 1) M3) fun v12 M11 => gz v12 (some (v12, M11)) else oli (M3 200 16) fun v5 => gd (((nI 4) * v5) + (nI 2)) 1600 (oml (mw M3 206 (ix (((nI 4) * v5) + (nI 2))) (nI 0)) fun M6 => obi (xX12_oneOf M6) fun v8 M7 => (if v8 = (0 : Int32) then some ((nI 0), M7) else oli (M7 200 16) fun v9 => oml (mw M7 200 16 (v9 + (nI 1))) fun M10 => k19 M10))))
set_option maxRecDepth 20000 in
set_option maxHeartbeats 2000000 in
theorem tX12_readsAll_33 (k19 : j_M → Option (Int32 × j_M))  (hk19 : ∀ (M : j_M), J (ρ := Int32 × j_M) yX12_readsAll cX12_readsAll 1 (some .boolean) 11 267 j_ei 19 [(0, .inr (17, 0, 200))] [] M (k19  M))  (M : j_M) : J (ρ := Int32 × j_M) yX12_readsAll cX12_readsAll 1 (some .boolean) 11 267 j_ei 33 [(0, .inr (17, 0, 200))] [] M (xX12_readsAll_33 k19  M) := by
  unfold xX12_readsAll_33
  refine K_aload_n (q := 34) 0 dX12_readsAll_33 rfl rfl rfl ?_
  refine K_getI (q := 37) (ci := 7) 13 dX12_readsAll_34 fRX12_253 rfl rfl rfl (fun v1 => ?_)
  refine K_sipush (q := 40) (v := nI 225) dX12_readsAll_37 rfl rfl ?_
  refine K_icmp_ne (q := 43) (tgt := 52) dX12_readsAll_40 rfl ?_ rfl ?_
  · refine K_aload_n (q := 53) 0 dX12_readsAll_52 rfl rfl rfl ?_
    refine K_getI (q := 56) (ci := 7) 13 dX12_readsAll_53 fRX12_253 rfl rfl rfl (fun v2 => ?_)
    refine K_iconst (q := 57) (v := nI 3) dX12_readsAll_56 rfl rfl ?_
    refine K_bipush (q := 59) (v := nI 7) dX12_readsAll_57 rfl rfl ?_
    refine K_csi (q := 62) [.inl (v2), .inl ((nI 3)), .inl ((nI 7))] dX12_readsAll_59 cb_X12_isIn cvRX12_65 rfl (Nat.le_of_ble_eq_true rfl) ⟨by decide, by decide⟩ (Nat.le_of_ble_eq_true rfl) rfl (tX12_isIn v2 (nI 3) (nI 7) M) rfl (fun v4 M3 => ?_)
    refine K_if_ne (q := 65) (tgt := 71) dX12_readsAll_62 rfl ?_ rfl ?_
    · refine K_aload_n (q := 72) 0 dX12_readsAll_71 rfl rfl rfl ?_
      refine K_getR (q := 75) (ci := 7) (a2 := 206) 6 dX12_readsAll_72 fRX12_26 rfl rfl (by decide) rfl rfl ?_
      refine K_iconst (q := 76) (v := nI 4) dX12_readsAll_75 rfl rfl ?_
      refine K_aload_n (q := 77) 0 dX12_readsAll_76 rfl rfl rfl ?_
      refine K_getI (q := 80) (ci := 7) 16 dX12_readsAll_77 fRX12_280 rfl rfl rfl (fun v5 => ?_)
      refine K_imul (q := 81) dX12_readsAll_80 rfl ?_
      refine K_iconst (q := 82) (v := nI 2) dX12_readsAll_81 rfl rfl ?_
      refine K_iadd (q := 83) dX12_readsAll_82 rfl ?_
      refine K_iconst (q := 84) (v := nI 0) dX12_readsAll_83 rfl rfl ?_
      refine K_iast (q := 85) dX12_readsAll_84 rfl (fun M6 => ?_)
      refine K_aload_n (q := 86) 0 dX12_readsAll_85 rfl rfl rfl ?_
      refine K_cvi (q := 89) [] dX12_readsAll_86 cb_X12_oneOf cvRX12_298 rc_7 (show (17 : Nat) ≠ 0 by decide) rfl (Nat.le_of_ble_eq_true rfl) ⟨by decide, by decide⟩ (Nat.le_of_ble_eq_true rfl) rfl (tX12_oneOf M6) rfl (fun v8 M7 => ?_)
      refine K_if_ne (q := 92) (tgt := 94) dX12_readsAll_89 rfl ?_ rfl ?_
      · refine K_aload_n (q := 95) 0 dX12_readsAll_94 rfl rfl rfl ?_
        refine K_dup (q := 96) dX12_readsAll_95 rfl ?_
        refine K_getI (q := 99) (ci := 7) 16 dX12_readsAll_96 fRX12_280 rfl rfl rfl (fun v9 => ?_)
        refine K_iconst (q := 100) (v := nI 1) dX12_readsAll_99 rfl rfl ?_
        refine K_iadd (q := 101) dX12_readsAll_100 rfl ?_
        refine K_putI (q := 104) (ci := 7) 16 dX12_readsAll_101 fRX12_280 fp_7_16 rfl rfl (by decide) rfl (fun M10 => ?_)
        refine J_goto (tgt := 19) dX12_readsAll_104 rfl ?_
        exact J_sub [0] (hk19 M10) rfl
      · refine K_iconst (q := 93) (v := nI 0) dX12_readsAll_92 rfl rfl ?_
        exact J_zret dX12_readsAll_93 (by decide)
    · refine K_aload_n (q := 66) 0 dX12_readsAll_65 rfl rfl rfl ?_
      refine K_iconst (q := 67) (v := nI 1) dX12_readsAll_66 rfl rfl ?_
      refine K_cvi (q := 70) [.inl ((nI 1))] dX12_readsAll_67 cb_X12_bad cvRX12_274 rc_7 (show (17 : Nat) ≠ 0 by decide) rfl (Nat.le_of_ble_eq_true rfl) ⟨by decide, by decide⟩ (Nat.le_of_ble_eq_true rfl) rfl (tX12_bad (nI 1) M3) rfl (fun v12 M11 => ?_)
      exact J_zretG dX12_readsAll_70
  · refine K_aload_n (q := 44) 0 dX12_readsAll_43 rfl rfl rfl ?_
    refine K_cvi (q := 47) [] dX12_readsAll_44 cb_X12_closes cvRX12_295 rc_7 (show (17 : Nat) ≠ 0 by decide) rfl (Nat.le_of_ble_eq_true rfl) ⟨by decide, by decide⟩ (Nat.le_of_ble_eq_true rfl) rfl (tX12_closes M) rfl (fun v14 M13 => ?_)
    refine K_if_ne (q := 50) (tgt := 19) dX12_readsAll_47 rfl ?_ rfl ?_
    · exact J_sub [0] (hk19 M13) rfl
    · refine K_iconst (q := 51) (v := nI 0) dX12_readsAll_50 rfl rfl ?_
      exact J_zret dX12_readsAll_51 (by decide)
def xX12_readsAll_19   : Nat → j_M → Option (Int32 × j_M)
  | 0, _ => none
  | n + 1, M => oli (M 200 13) fun v1 => (if v1 = (0 : Int32) then oli (M 200 17) fun v2 => (if v2 ≤ (0 : Int32) then some ((nI 1), M) else xX12_readsAll_33 (xX12_readsAll_19  n) M) else xX12_readsAll_33 (xX12_readsAll_19  n) M)
set_option maxRecDepth 20000 in
set_option maxHeartbeats 2000000 in
theorem tX12_readsAll_19    : ∀ (n : Nat) (M : j_M), J (ρ := Int32 × j_M) yX12_readsAll cX12_readsAll 1 (some .boolean) 11 267 j_ei 19 [(0, .inr (17, 0, 200))] [] M (xX12_readsAll_19  n  M) := by
  intro n
  induction n with
  | zero => intros; exact J_none
  | succ n ih =>
    intro  M
    rw [xX12_readsAll_19.eq_2]
    refine K_aload_n (q := 20) 0 dX12_readsAll_19 rfl rfl rfl ?_
    refine K_getI (q := 23) (ci := 7) 13 dX12_readsAll_20 fRX12_253 rfl rfl rfl (fun v1 => ?_)
    refine K_if_ne (q := 26) (tgt := 33) dX12_readsAll_23 rfl ?_ rfl ?_
    · exact J_sub [0] (tX12_readsAll_33 (xX12_readsAll_19  n) ih M) rfl
    · refine K_aload_n (q := 27) 0 dX12_readsAll_26 rfl rfl rfl ?_
      refine K_getI (q := 30) (ci := 7) 17 dX12_readsAll_27 fRX12_283 rfl rfl rfl (fun v2 => ?_)
      refine K_if_le (q := 33) (tgt := 107) dX12_readsAll_30 rfl ?_ rfl ?_
      · refine K_iconst (q := 108) (v := nI 1) dX12_readsAll_107 rfl rfl ?_
        exact J_zret dX12_readsAll_108 (by decide)
      · exact J_sub [0] (tX12_readsAll_33 (xX12_readsAll_19  n) ih M) rfl
def xX12_readsAll   (M : j_M) : Option (Int32 × j_M) := oml (mw M 200 16 (nI 0)) fun M1 => oml (mw M1 200 17 (nI 0)) fun M2 => oml (mw M2 200 12 (nI 0)) fun M3 => obv (xX12_goesOn M3) fun M4 => xX12_readsAll_19 fu M4
set_option maxRecDepth 20000 in
set_option maxHeartbeats 2000000 in
theorem tX12_readsAll   (M : j_M) : J (ρ := Int32 × j_M) yX12_readsAll cX12_readsAll 1 (some .boolean) 11 267 j_ei 0 [(0, .inr (17, 0, 200))] [] M (xX12_readsAll   M) := by
  unfold xX12_readsAll
  refine K_aload_n (q := 1) 0 dX12_readsAll_0 rfl rfl rfl ?_
  refine K_iconst (q := 2) (v := nI 0) dX12_readsAll_1 rfl rfl ?_
  refine K_putI (q := 5) (ci := 7) 16 dX12_readsAll_2 fRX12_280 fp_7_16 rfl rfl (by decide) rfl (fun M1 => ?_)
  refine K_aload_n (q := 6) 0 dX12_readsAll_5 rfl rfl rfl ?_
  refine K_iconst (q := 7) (v := nI 0) dX12_readsAll_6 rfl rfl ?_
  refine K_putI (q := 10) (ci := 7) 17 dX12_readsAll_7 fRX12_283 fp_7_17 rfl rfl (by decide) rfl (fun M2 => ?_)
  refine K_aload_n (q := 11) 0 dX12_readsAll_10 rfl rfl rfl ?_
  refine K_iconst (q := 12) (v := nI 0) dX12_readsAll_11 rfl rfl ?_
  refine K_putI (q := 15) (ci := 7) 12 dX12_readsAll_12 fRX12_203 fp_7_12 rfl rfl (by decide) rfl (fun M3 => ?_)
  refine K_aload_n (q := 16) 0 dX12_readsAll_15 rfl rfl rfl ?_
  refine K_cvv (q := 19) [] dX12_readsAll_16 cb_X12_goesOn cvRX12_277 rc_7 (show (17 : Nat) ≠ 0 by decide) rfl (Nat.le_of_ble_eq_true rfl) ⟨by decide, by decide⟩ (Nat.le_of_ble_eq_true rfl) rfl (tX12_goesOn M3) rfl (fun M4 => ?_)
  exact J_sub [0] (tX12_readsAll_19 fu M4) rfl
theorem dX12_ofCpu_0 : decode cX12_ofCpu 0 = .ok (.aload_n 0, 1) := by decide +kernel
theorem dX12_ofCpu_1 : decode cX12_ofCpu 1 = .ok (.iconst 1, 1) := by decide +kernel
theorem dX12_ofCpu_2 : decode cX12_ofCpu 2 = .ok (.iconst 0, 1) := by decide +kernel
theorem dX12_ofCpu_3 : decode cX12_ofCpu 3 = .ok (.iconst 5, 1) := by decide +kernel
theorem dX12_ofCpu_4 : decode cX12_ofCpu 4 = .ok (.invokevirtual 286, 3) := by decide +kernel
theorem dX12_ofCpu_7 : decode cX12_ofCpu 7 = .ok (.ifCond .ne 5, 3) := by decide +kernel
theorem dX12_ofCpu_10 : decode cX12_ofCpu 10 = .ok (.iconst 0, 1) := by decide +kernel
theorem dX12_ofCpu_11 : decode cX12_ofCpu 11 = .ok (.ireturn, 1) := by decide +kernel
theorem dX12_ofCpu_12 : decode cX12_ofCpu 12 = .ok (.aload_n 0, 1) := by decide +kernel
theorem dX12_ofCpu_13 : decode cX12_ofCpu 13 = .ok (.getfield 253, 3) := by decide +kernel
theorem dX12_ofCpu_16 : decode cX12_ofCpu 16 = .ok (.istore_n 1, 1) := by decide +kernel
theorem dX12_ofCpu_17 : decode cX12_ofCpu 17 = .ok (.iload_n 1, 1) := by decide +kernel
theorem dX12_ofCpu_18 : decode cX12_ofCpu 18 = .ok (.iconst 3, 1) := by decide +kernel
theorem dX12_ofCpu_19 : decode cX12_ofCpu 19 = .ok (.if_icmp .eq 25, 3) := by decide +kernel
theorem dX12_ofCpu_22 : decode cX12_ofCpu 22 = .ok (.iload_n 1, 1) := by decide +kernel
theorem dX12_ofCpu_23 : decode cX12_ofCpu 23 = .ok (.iconst 4, 1) := by decide +kernel
theorem dX12_ofCpu_24 : decode cX12_ofCpu 24 = .ok (.if_icmp .eq 20, 3) := by decide +kernel
theorem dX12_ofCpu_27 : decode cX12_ofCpu 27 = .ok (.iload_n 1, 1) := by decide +kernel
theorem dX12_ofCpu_28 : decode cX12_ofCpu 28 = .ok (.iconst 5, 1) := by decide +kernel
theorem dX12_ofCpu_29 : decode cX12_ofCpu 29 = .ok (.if_icmp .eq 15, 3) := by decide +kernel
theorem dX12_ofCpu_32 : decode cX12_ofCpu 32 = .ok (.iload_n 1, 1) := by decide +kernel
theorem dX12_ofCpu_33 : decode cX12_ofCpu 33 = .ok (.bipush 8, 2) := by decide +kernel
theorem dX12_ofCpu_35 : decode cX12_ofCpu 35 = .ok (.if_icmp .eq 9, 3) := by decide +kernel
theorem dX12_ofCpu_38 : decode cX12_ofCpu 38 = .ok (.aload_n 0, 1) := by decide +kernel
theorem dX12_ofCpu_39 : decode cX12_ofCpu 39 = .ok (.iconst 1, 1) := by decide +kernel
theorem dX12_ofCpu_40 : decode cX12_ofCpu 40 = .ok (.invokevirtual 274, 3) := by decide +kernel
theorem dX12_ofCpu_43 : decode cX12_ofCpu 43 = .ok (.ireturn, 1) := by decide +kernel
theorem dX12_ofCpu_44 : decode cX12_ofCpu 44 = .ok (.aload_n 0, 1) := by decide +kernel
theorem dX12_ofCpu_45 : decode cX12_ofCpu 45 = .ok (.getfield 26, 3) := by decide +kernel
theorem dX12_ofCpu_48 : decode cX12_ofCpu 48 = .ok (.iconst 4, 1) := by decide +kernel
theorem dX12_ofCpu_49 : decode cX12_ofCpu 49 = .ok (.aload_n 0, 1) := by decide +kernel
theorem dX12_ofCpu_50 : decode cX12_ofCpu 50 = .ok (.getfield 280, 3) := by decide +kernel
theorem dX12_ofCpu_53 : decode cX12_ofCpu 53 = .ok (.imul, 1) := by decide +kernel
theorem dX12_ofCpu_54 : decode cX12_ofCpu 54 = .ok (.iload_n 1, 1) := by decide +kernel
theorem dX12_ofCpu_55 : decode cX12_ofCpu 55 = .ok (.iastore, 1) := by decide +kernel
theorem dX12_ofCpu_56 : decode cX12_ofCpu 56 = .ok (.aload_n 0, 1) := by decide +kernel
theorem dX12_ofCpu_57 : decode cX12_ofCpu 57 = .ok (.invokevirtual 277, 3) := by decide +kernel
theorem dX12_ofCpu_60 : decode cX12_ofCpu 60 = .ok (.aload_n 0, 1) := by decide +kernel
theorem dX12_ofCpu_61 : decode cX12_ofCpu 61 = .ok (.iconst 2, 1) := by decide +kernel
theorem dX12_ofCpu_62 : decode cX12_ofCpu 62 = .ok (.iconst 0, 1) := by decide +kernel
theorem dX12_ofCpu_63 : decode cX12_ofCpu 63 = .ok (.bipush 7, 2) := by decide +kernel
theorem dX12_ofCpu_65 : decode cX12_ofCpu 65 = .ok (.invokevirtual 286, 3) := by decide +kernel
theorem dX12_ofCpu_68 : decode cX12_ofCpu 68 = .ok (.ifCond .ne 5, 3) := by decide +kernel
theorem dX12_ofCpu_71 : decode cX12_ofCpu 71 = .ok (.iconst 0, 1) := by decide +kernel
theorem dX12_ofCpu_72 : decode cX12_ofCpu 72 = .ok (.ireturn, 1) := by decide +kernel
theorem dX12_ofCpu_73 : decode cX12_ofCpu 73 = .ok (.iload_n 1, 1) := by decide +kernel
theorem dX12_ofCpu_74 : decode cX12_ofCpu 74 = .ok (.iconst 3, 1) := by decide +kernel
theorem dX12_ofCpu_75 : decode cX12_ofCpu 75 = .ok (.if_icmp .eq 21, 3) := by decide +kernel
theorem dX12_ofCpu_78 : decode cX12_ofCpu 78 = .ok (.iload_n 1, 1) := by decide +kernel
theorem dX12_ofCpu_79 : decode cX12_ofCpu 79 = .ok (.bipush 8, 2) := by decide +kernel
theorem dX12_ofCpu_81 : decode cX12_ofCpu 81 = .ok (.if_icmp .eq 15, 3) := by decide +kernel
theorem dX12_ofCpu_84 : decode cX12_ofCpu 84 = .ok (.aload_n 0, 1) := by decide +kernel
theorem dX12_ofCpu_85 : decode cX12_ofCpu 85 = .ok (.iconst 3, 1) := by decide +kernel
theorem dX12_ofCpu_86 : decode cX12_ofCpu 86 = .ok (.iconst 0, 1) := by decide +kernel
theorem dX12_ofCpu_87 : decode cX12_ofCpu 87 = .ok (.sipush 9999, 3) := by decide +kernel
theorem dX12_ofCpu_90 : decode cX12_ofCpu 90 = .ok (.invokevirtual 286, 3) := by decide +kernel
theorem dX12_ofCpu_93 : decode cX12_ofCpu 93 = .ok (.ifCond .eq 17, 3) := by decide +kernel
theorem dX12_ofCpu_96 : decode cX12_ofCpu 96 = .ok (.aload_n 0, 1) := by decide +kernel
theorem dX12_ofCpu_97 : decode cX12_ofCpu 97 = .ok (.sipush 159, 3) := by decide +kernel
theorem dX12_ofCpu_100 : decode cX12_ofCpu 100 = .ok (.invokevirtual 289, 3) := by decide +kernel
theorem dX12_ofCpu_103 : decode cX12_ofCpu 103 = .ok (.ifCond .eq 7, 3) := by decide +kernel
theorem dX12_ofCpu_106 : decode cX12_ofCpu 106 = .ok (.iconst 1, 1) := by decide +kernel
theorem dX12_ofCpu_107 : decode cX12_ofCpu 107 = .ok (.goto 4, 3) := by decide +kernel
theorem dX12_ofCpu_110 : decode cX12_ofCpu 110 = .ok (.iconst 0, 1) := by decide +kernel
theorem dX12_ofCpu_111 : decode cX12_ofCpu 111 = .ok (.ireturn, 1) := by decide +kernel
def xX12_ofCpu_96    (M : j_M) : Option (Int32 × j_M) := obi (xX12_need (nI 159) M) fun v2 M1 => (if v2 = (0 : Int32) then some ((nI 0), M1) else some ((nI 1), M1))
set_option maxRecDepth 20000 in
set_option maxHeartbeats 2000000 in
theorem tX12_ofCpu_96     (M : j_M) : J (ρ := Int32 × j_M) yX12_ofCpu cX12_ofCpu 2 (some .boolean) 9 226 j_ei 96 [(0, .inr (17, 0, 200))] [] M (xX12_ofCpu_96   M) := by
  unfold xX12_ofCpu_96
  refine K_aload_n (q := 97) 0 dX12_ofCpu_96 rfl rfl rfl ?_
  refine K_sipush (q := 100) (v := nI 159) dX12_ofCpu_97 rfl rfl ?_
  refine K_cvi (q := 103) [.inl ((nI 159))] dX12_ofCpu_100 cb_X12_need cvRX12_289 rc_7 (show (17 : Nat) ≠ 0 by decide) rfl (Nat.le_of_ble_eq_true rfl) ⟨by decide, by decide⟩ (Nat.le_of_ble_eq_true rfl) rfl (tX12_need (nI 159) M) rfl (fun v2 M1 => ?_)
  refine K_if_eq (q := 106) (tgt := 110) dX12_ofCpu_103 rfl ?_ rfl ?_
  · refine K_iconst (q := 111) (v := nI 0) dX12_ofCpu_110 rfl rfl ?_
    exact J_zret dX12_ofCpu_111 (by decide)
  · refine K_iconst (q := 107) (v := nI 1) dX12_ofCpu_106 rfl rfl ?_
    refine J_goto (tgt := 111) dX12_ofCpu_107 rfl ?_
    exact J_zret dX12_ofCpu_111 (by decide)
def xX12_ofCpu_44   (l1 : Int32) (M : j_M) : Option (Int32 × j_M) := oli (M 200 16) fun v1 => gd ((nI 4) * v1) 1600 (oml (mw M 206 (ix ((nI 4) * v1)) l1) fun M2 => obv (xX12_goesOn M2) fun M3 => obi (xX12_number (nI 2) (nI 0) (nI 7) M3) fun v5 M4 => (if v5 = (0 : Int32) then some ((nI 0), M4) else (if l1 = (nI 3) then xX12_ofCpu_96  M4 else (if l1 = (nI 8) then xX12_ofCpu_96  M4 else obi (xX12_number (nI 3) (nI 0) (nI 9999) M4) fun v7 M6 => (if v7 = (0 : Int32) then some ((nI 0), M6) else xX12_ofCpu_96  M6)))))
set_option maxRecDepth 20000 in
set_option maxHeartbeats 2000000 in
theorem tX12_ofCpu_44    (l1 : Int32) (M : j_M) : J (ρ := Int32 × j_M) yX12_ofCpu cX12_ofCpu 2 (some .boolean) 9 226 j_ei 44 [(0, .inr (17, 0, 200)), (1, .inl (l1))] [] M (xX12_ofCpu_44  l1 M) := by
  unfold xX12_ofCpu_44
  refine K_aload_n (q := 45) 0 dX12_ofCpu_44 rfl rfl rfl ?_
  refine K_getR (q := 48) (ci := 7) (a2 := 206) 6 dX12_ofCpu_45 fRX12_26 rfl rfl (by decide) rfl rfl ?_
  refine K_iconst (q := 49) (v := nI 4) dX12_ofCpu_48 rfl rfl ?_
  refine K_aload_n (q := 50) 0 dX12_ofCpu_49 rfl rfl rfl ?_
  refine K_getI (q := 53) (ci := 7) 16 dX12_ofCpu_50 fRX12_280 rfl rfl rfl (fun v1 => ?_)
  refine K_imul (q := 54) dX12_ofCpu_53 rfl ?_
  refine K_iload_n (q := 55) 1 dX12_ofCpu_54 rfl rfl rfl ?_
  refine K_iast (q := 56) dX12_ofCpu_55 rfl (fun M2 => ?_)
  refine K_aload_n (q := 57) 0 dX12_ofCpu_56 rfl rfl rfl ?_
  refine K_cvv (q := 60) [] dX12_ofCpu_57 cb_X12_goesOn cvRX12_277 rc_7 (show (17 : Nat) ≠ 0 by decide) rfl (Nat.le_of_ble_eq_true rfl) ⟨by decide, by decide⟩ (Nat.le_of_ble_eq_true rfl) rfl (tX12_goesOn M2) rfl (fun M3 => ?_)
  refine K_aload_n (q := 61) 0 dX12_ofCpu_60 rfl rfl rfl ?_
  refine K_iconst (q := 62) (v := nI 2) dX12_ofCpu_61 rfl rfl ?_
  refine K_iconst (q := 63) (v := nI 0) dX12_ofCpu_62 rfl rfl ?_
  refine K_bipush (q := 65) (v := nI 7) dX12_ofCpu_63 rfl rfl ?_
  refine K_cvi (q := 68) [.inl ((nI 2)), .inl ((nI 0)), .inl ((nI 7))] dX12_ofCpu_65 cb_X12_number cvRX12_286 rc_7 (show (17 : Nat) ≠ 0 by decide) rfl (Nat.le_of_ble_eq_true rfl) ⟨by decide, by decide⟩ (Nat.le_of_ble_eq_true rfl) rfl (tX12_number (nI 2) (nI 0) (nI 7) M3) rfl (fun v5 M4 => ?_)
  refine K_if_ne (q := 71) (tgt := 73) dX12_ofCpu_68 rfl ?_ rfl ?_
  · refine K_iload_n (q := 74) 1 dX12_ofCpu_73 rfl rfl rfl ?_
    refine K_iconst (q := 75) (v := nI 3) dX12_ofCpu_74 rfl rfl ?_
    refine K_icmp_eq (q := 78) (tgt := 96) dX12_ofCpu_75 rfl ?_ rfl ?_
    · exact J_sub [0] (tX12_ofCpu_96  M4) rfl
    · refine K_iload_n (q := 79) 1 dX12_ofCpu_78 rfl rfl rfl ?_
      refine K_bipush (q := 81) (v := nI 8) dX12_ofCpu_79 rfl rfl ?_
      refine K_icmp_eq (q := 84) (tgt := 96) dX12_ofCpu_81 rfl ?_ rfl ?_
      · exact J_sub [0] (tX12_ofCpu_96  M4) rfl
      · refine K_aload_n (q := 85) 0 dX12_ofCpu_84 rfl rfl rfl ?_
        refine K_iconst (q := 86) (v := nI 3) dX12_ofCpu_85 rfl rfl ?_
        refine K_iconst (q := 87) (v := nI 0) dX12_ofCpu_86 rfl rfl ?_
        refine K_sipush (q := 90) (v := nI 9999) dX12_ofCpu_87 rfl rfl ?_
        refine K_cvi (q := 93) [.inl ((nI 3)), .inl ((nI 0)), .inl ((nI 9999))] dX12_ofCpu_90 cb_X12_number cvRX12_286 rc_7 (show (17 : Nat) ≠ 0 by decide) rfl (Nat.le_of_ble_eq_true rfl) ⟨by decide, by decide⟩ (Nat.le_of_ble_eq_true rfl) rfl (tX12_number (nI 3) (nI 0) (nI 9999) M4) rfl (fun v7 M6 => ?_)
        refine K_if_eq (q := 96) (tgt := 110) dX12_ofCpu_93 rfl ?_ rfl ?_
        · refine K_iconst (q := 111) (v := nI 0) dX12_ofCpu_110 rfl rfl ?_
          exact J_zret dX12_ofCpu_111 (by decide)
        · exact J_sub [0] (tX12_ofCpu_96  M6) rfl
  · refine K_iconst (q := 72) (v := nI 0) dX12_ofCpu_71 rfl rfl ?_
    exact J_zret dX12_ofCpu_72 (by decide)
def xX12_ofCpu   (M : j_M) : Option (Int32 × j_M) := obi (xX12_number (nI 1) (nI 0) (nI 5) M) fun v2 M1 => (if v2 = (0 : Int32) then some ((nI 0), M1) else oli (M1 200 13) fun v3 => (if v3 = (nI 3) then xX12_ofCpu_44  v3 M1 else (if v3 = (nI 4) then xX12_ofCpu_44  v3 M1 else (if v3 = (nI 5) then xX12_ofCpu_44  v3 M1 else (if v3 = (nI 8) then xX12_ofCpu_44  v3 M1 else obi (xX12_bad (nI 1) M1) fun v5 M4 => gz v5 (some (v5, M4)))))))
set_option maxRecDepth 20000 in
set_option maxHeartbeats 2000000 in
theorem tX12_ofCpu   (M : j_M) : J (ρ := Int32 × j_M) yX12_ofCpu cX12_ofCpu 2 (some .boolean) 9 226 j_ei 0 [(0, .inr (17, 0, 200))] [] M (xX12_ofCpu   M) := by
  unfold xX12_ofCpu
  refine K_aload_n (q := 1) 0 dX12_ofCpu_0 rfl rfl rfl ?_
  refine K_iconst (q := 2) (v := nI 1) dX12_ofCpu_1 rfl rfl ?_
  refine K_iconst (q := 3) (v := nI 0) dX12_ofCpu_2 rfl rfl ?_
  refine K_iconst (q := 4) (v := nI 5) dX12_ofCpu_3 rfl rfl ?_
  refine K_cvi (q := 7) [.inl ((nI 1)), .inl ((nI 0)), .inl ((nI 5))] dX12_ofCpu_4 cb_X12_number cvRX12_286 rc_7 (show (17 : Nat) ≠ 0 by decide) rfl (Nat.le_of_ble_eq_true rfl) ⟨by decide, by decide⟩ (Nat.le_of_ble_eq_true rfl) rfl (tX12_number (nI 1) (nI 0) (nI 5) M) rfl (fun v2 M1 => ?_)
  refine K_if_ne (q := 10) (tgt := 12) dX12_ofCpu_7 rfl ?_ rfl ?_
  · refine K_aload_n (q := 13) 0 dX12_ofCpu_12 rfl rfl rfl ?_
    refine K_getI (q := 16) (ci := 7) 13 dX12_ofCpu_13 fRX12_253 rfl rfl rfl (fun v3 => ?_)
    refine K_istore_n (q := 17) (ll' := [(1, .inl (v3)), (0, .inr (17, 0, 200))]) dX12_ofCpu_16 rfl (by decide) rfl rfl ?_
    refine K_iload_n (q := 18) 0 dX12_ofCpu_17 rfl rfl rfl ?_
    refine K_iconst (q := 19) (v := nI 3) dX12_ofCpu_18 rfl rfl ?_
    refine K_icmp_eq (q := 22) (tgt := 44) dX12_ofCpu_19 rfl ?_ rfl ?_
    · exact J_sub [1, 0] (tX12_ofCpu_44  v3 M1) rfl
    · refine K_iload_n (q := 23) 0 dX12_ofCpu_22 rfl rfl rfl ?_
      refine K_iconst (q := 24) (v := nI 4) dX12_ofCpu_23 rfl rfl ?_
      refine K_icmp_eq (q := 27) (tgt := 44) dX12_ofCpu_24 rfl ?_ rfl ?_
      · exact J_sub [1, 0] (tX12_ofCpu_44  v3 M1) rfl
      · refine K_iload_n (q := 28) 0 dX12_ofCpu_27 rfl rfl rfl ?_
        refine K_iconst (q := 29) (v := nI 5) dX12_ofCpu_28 rfl rfl ?_
        refine K_icmp_eq (q := 32) (tgt := 44) dX12_ofCpu_29 rfl ?_ rfl ?_
        · exact J_sub [1, 0] (tX12_ofCpu_44  v3 M1) rfl
        · refine K_iload_n (q := 33) 0 dX12_ofCpu_32 rfl rfl rfl ?_
          refine K_bipush (q := 35) (v := nI 8) dX12_ofCpu_33 rfl rfl ?_
          refine K_icmp_eq (q := 38) (tgt := 44) dX12_ofCpu_35 rfl ?_ rfl ?_
          · exact J_sub [1, 0] (tX12_ofCpu_44  v3 M1) rfl
          · refine K_aload_n (q := 39) 1 dX12_ofCpu_38 rfl rfl rfl ?_
            refine K_iconst (q := 40) (v := nI 1) dX12_ofCpu_39 rfl rfl ?_
            refine K_cvi (q := 43) [.inl ((nI 1))] dX12_ofCpu_40 cb_X12_bad cvRX12_274 rc_7 (show (17 : Nat) ≠ 0 by decide) rfl (Nat.le_of_ble_eq_true rfl) ⟨by decide, by decide⟩ (Nat.le_of_ble_eq_true rfl) rfl (tX12_bad (nI 1) M1) rfl (fun v5 M4 => ?_)
            exact J_zretG dX12_ofCpu_43
  · refine K_iconst (q := 11) (v := nI 0) dX12_ofCpu_10 rfl rfl ?_
    exact J_zret dX12_ofCpu_11 (by decide)
theorem dX12_aLine_0 : decode cX12_aLine 0 = .ok (.aload_n 0, 1) := by decide +kernel
theorem dX12_aLine_1 : decode cX12_aLine 1 = .ok (.getfield 253, 3) := by decide +kernel
theorem dX12_aLine_4 : decode cX12_aLine 4 = .ok (.iconst 2, 1) := by decide +kernel
theorem dX12_aLine_5 : decode cX12_aLine 5 = .ok (.if_icmp .ne 8, 3) := by decide +kernel
theorem dX12_aLine_8 : decode cX12_aLine 8 = .ok (.aload_n 0, 1) := by decide +kernel
theorem dX12_aLine_9 : decode cX12_aLine 9 = .ok (.invokevirtual 304, 3) := by decide +kernel
theorem dX12_aLine_12 : decode cX12_aLine 12 = .ok (.ireturn, 1) := by decide +kernel
theorem dX12_aLine_13 : decode cX12_aLine 13 = .ok (.aload_n 0, 1) := by decide +kernel
theorem dX12_aLine_14 : decode cX12_aLine 14 = .ok (.getfield 253, 3) := by decide +kernel
theorem dX12_aLine_17 : decode cX12_aLine 17 = .ok (.istore_n 1, 1) := by decide +kernel
theorem dX12_aLine_18 : decode cX12_aLine 18 = .ok (.aload_n 0, 1) := by decide +kernel
theorem dX12_aLine_19 : decode cX12_aLine 19 = .ok (.getfield 26, 3) := by decide +kernel
theorem dX12_aLine_22 : decode cX12_aLine 22 = .ok (.iconst 4, 1) := by decide +kernel
theorem dX12_aLine_23 : decode cX12_aLine 23 = .ok (.aload_n 0, 1) := by decide +kernel
theorem dX12_aLine_24 : decode cX12_aLine 24 = .ok (.getfield 280, 3) := by decide +kernel
theorem dX12_aLine_27 : decode cX12_aLine 27 = .ok (.imul, 1) := by decide +kernel
theorem dX12_aLine_28 : decode cX12_aLine 28 = .ok (.iload_n 1, 1) := by decide +kernel
theorem dX12_aLine_29 : decode cX12_aLine 29 = .ok (.iastore, 1) := by decide +kernel
theorem dX12_aLine_30 : decode cX12_aLine 30 = .ok (.aload_n 0, 1) := by decide +kernel
theorem dX12_aLine_31 : decode cX12_aLine 31 = .ok (.invokevirtual 277, 3) := by decide +kernel
theorem dX12_aLine_34 : decode cX12_aLine 34 = .ok (.iload_n 1, 1) := by decide +kernel
theorem dX12_aLine_35 : decode cX12_aLine 35 = .ok (.bipush 10, 2) := by decide +kernel
theorem dX12_aLine_37 : decode cX12_aLine 37 = .ok (.if_icmp .gt 8, 3) := by decide +kernel
theorem dX12_aLine_40 : decode cX12_aLine 40 = .ok (.bipush 50, 2) := by decide +kernel
theorem dX12_aLine_42 : decode cX12_aLine 42 = .ok (.goto 26, 3) := by decide +kernel
theorem dX12_aLine_45 : decode cX12_aLine 45 = .ok (.iload_n 1, 1) := by decide +kernel
theorem dX12_aLine_46 : decode cX12_aLine 46 = .ok (.bipush 11, 2) := by decide +kernel
theorem dX12_aLine_48 : decode cX12_aLine 48 = .ok (.if_icmp .ne 8, 3) := by decide +kernel
theorem dX12_aLine_51 : decode cX12_aLine 51 = .ok (.bipush 99, 2) := by decide +kernel
theorem dX12_aLine_53 : decode cX12_aLine 53 = .ok (.goto 15, 3) := by decide +kernel
theorem dX12_aLine_56 : decode cX12_aLine 56 = .ok (.iload_n 1, 1) := by decide +kernel
theorem dX12_aLine_57 : decode cX12_aLine 57 = .ok (.bipush 14, 2) := by decide +kernel
theorem dX12_aLine_59 : decode cX12_aLine 59 = .ok (.if_icmp .ne 7, 3) := by decide +kernel
theorem dX12_aLine_62 : decode cX12_aLine 62 = .ok (.iconst 3, 1) := by decide +kernel
theorem dX12_aLine_63 : decode cX12_aLine 63 = .ok (.goto 5, 3) := by decide +kernel
theorem dX12_aLine_66 : decode cX12_aLine 66 = .ok (.bipush 60, 2) := by decide +kernel
theorem dX12_aLine_68 : decode cX12_aLine 68 = .ok (.istore_n 2, 1) := by decide +kernel
theorem dX12_aLine_69 : decode cX12_aLine 69 = .ok (.aload_n 0, 1) := by decide +kernel
theorem dX12_aLine_70 : decode cX12_aLine 70 = .ok (.iconst 1, 1) := by decide +kernel
theorem dX12_aLine_71 : decode cX12_aLine 71 = .ok (.iload_n 1, 1) := by decide +kernel
theorem dX12_aLine_72 : decode cX12_aLine 72 = .ok (.bipush 14, 2) := by decide +kernel
theorem dX12_aLine_74 : decode cX12_aLine 74 = .ok (.if_icmp .ne 7, 3) := by decide +kernel
theorem dX12_aLine_77 : decode cX12_aLine 77 = .ok (.iconst 0, 1) := by decide +kernel
theorem dX12_aLine_78 : decode cX12_aLine 78 = .ok (.goto 4, 3) := by decide +kernel
theorem dX12_aLine_81 : decode cX12_aLine 81 = .ok (.iconst 1, 1) := by decide +kernel
theorem dX12_aLine_82 : decode cX12_aLine 82 = .ok (.iload_n 2, 1) := by decide +kernel
theorem dX12_aLine_83 : decode cX12_aLine 83 = .ok (.invokevirtual 286, 3) := by decide +kernel
theorem dX12_aLine_86 : decode cX12_aLine 86 = .ok (.ifCond .ne 5, 3) := by decide +kernel
theorem dX12_aLine_89 : decode cX12_aLine 89 = .ok (.iconst 0, 1) := by decide +kernel
theorem dX12_aLine_90 : decode cX12_aLine 90 = .ok (.ireturn, 1) := by decide +kernel
theorem dX12_aLine_91 : decode cX12_aLine 91 = .ok (.iload_n 1, 1) := by decide +kernel
theorem dX12_aLine_92 : decode cX12_aLine 92 = .ok (.bipush 13, 2) := by decide +kernel
theorem dX12_aLine_94 : decode cX12_aLine 94 = .ok (.if_icmp .ne 13, 3) := by decide +kernel
theorem dX12_aLine_97 : decode cX12_aLine 97 = .ok (.aload_n 0, 1) := by decide +kernel
theorem dX12_aLine_98 : decode cX12_aLine 98 = .ok (.iconst 2, 1) := by decide +kernel
theorem dX12_aLine_99 : decode cX12_aLine 99 = .ok (.iconst 0, 1) := by decide +kernel
theorem dX12_aLine_100 : decode cX12_aLine 100 = .ok (.iconst 2, 1) := by decide +kernel
theorem dX12_aLine_101 : decode cX12_aLine 101 = .ok (.invokevirtual 286, 3) := by decide +kernel
theorem dX12_aLine_104 : decode cX12_aLine 104 = .ok (.ifCond .eq 17, 3) := by decide +kernel
theorem dX12_aLine_107 : decode cX12_aLine 107 = .ok (.aload_n 0, 1) := by decide +kernel
theorem dX12_aLine_108 : decode cX12_aLine 108 = .ok (.sipush 159, 3) := by decide +kernel
theorem dX12_aLine_111 : decode cX12_aLine 111 = .ok (.invokevirtual 289, 3) := by decide +kernel
theorem dX12_aLine_114 : decode cX12_aLine 114 = .ok (.ifCond .eq 7, 3) := by decide +kernel
theorem dX12_aLine_117 : decode cX12_aLine 117 = .ok (.iconst 1, 1) := by decide +kernel
theorem dX12_aLine_118 : decode cX12_aLine 118 = .ok (.goto 4, 3) := by decide +kernel
theorem dX12_aLine_121 : decode cX12_aLine 121 = .ok (.iconst 0, 1) := by decide +kernel
theorem dX12_aLine_122 : decode cX12_aLine 122 = .ok (.ireturn, 1) := by decide +kernel
def xX12_aLine_107    (M : j_M) : Option (Int32 × j_M) := obi (xX12_need (nI 159) M) fun v2 M1 => (if v2 = (0 : Int32) then some ((nI 0), M1) else some ((nI 1), M1))
set_option maxRecDepth 20000 in
set_option maxHeartbeats 2000000 in
theorem tX12_aLine_107     (M : j_M) : J (ρ := Int32 × j_M) yX12_aLine cX12_aLine 3 (some .boolean) 10 247 j_ei 107 [(0, .inr (17, 0, 200))] [] M (xX12_aLine_107   M) := by
  unfold xX12_aLine_107
  refine K_aload_n (q := 108) 0 dX12_aLine_107 rfl rfl rfl ?_
  refine K_sipush (q := 111) (v := nI 159) dX12_aLine_108 rfl rfl ?_
  refine K_cvi (q := 114) [.inl ((nI 159))] dX12_aLine_111 cb_X12_need cvRX12_289 rc_7 (show (17 : Nat) ≠ 0 by decide) rfl (Nat.le_of_ble_eq_true rfl) ⟨by decide, by decide⟩ (Nat.le_of_ble_eq_true rfl) rfl (tX12_need (nI 159) M) rfl (fun v2 M1 => ?_)
  refine K_if_eq (q := 117) (tgt := 121) dX12_aLine_114 rfl ?_ rfl ?_
  · refine K_iconst (q := 122) (v := nI 0) dX12_aLine_121 rfl rfl ?_
    exact J_zret dX12_aLine_122 (by decide)
  · refine K_iconst (q := 118) (v := nI 1) dX12_aLine_117 rfl rfl ?_
    refine J_goto (tgt := 122) dX12_aLine_118 rfl ?_
    exact J_zret dX12_aLine_122 (by decide)
def xX12_aLine_82   (l1 : Int32) (l2 : Int32) (s1 : Int32) (s0 : Int32) (M : j_M) : Option (Int32 × j_M) := obi (xX12_number s1 s0 l2 M) fun v2 M1 => (if v2 = (0 : Int32) then some ((nI 0), M1) else (if l1 = (nI 13) then obi (xX12_number (nI 2) (nI 0) (nI 2) M1) fun v4 M3 => (if v4 = (0 : Int32) then some ((nI 0), M3) else xX12_aLine_107  M3) else xX12_aLine_107  M1))
set_option maxRecDepth 20000 in
set_option maxHeartbeats 2000000 in
theorem tX12_aLine_82    (l1 : Int32) (l2 : Int32) (s1 : Int32) (s0 : Int32) (M : j_M) : J (ρ := Int32 × j_M) yX12_aLine cX12_aLine 3 (some .boolean) 10 247 j_ei 82 [(0, .inr (17, 0, 200)), (1, .inl (l1)), (2, .inl (l2))] [.inl (s0), .inl (s1), .inr (17, 0, 200)] M (xX12_aLine_82  l1 l2 s1 s0 M) := by
  unfold xX12_aLine_82
  refine K_iload_n (q := 83) 2 dX12_aLine_82 rfl rfl rfl ?_
  refine K_cvi (q := 86) [.inl (s1), .inl (s0), .inl (l2)] dX12_aLine_83 cb_X12_number cvRX12_286 rc_7 (show (17 : Nat) ≠ 0 by decide) rfl (Nat.le_of_ble_eq_true rfl) ⟨by decide, by decide⟩ (Nat.le_of_ble_eq_true rfl) rfl (tX12_number s1 s0 l2 M) rfl (fun v2 M1 => ?_)
  refine K_if_ne (q := 89) (tgt := 91) dX12_aLine_86 rfl ?_ rfl ?_
  · refine K_iload_n (q := 92) 1 dX12_aLine_91 rfl rfl rfl ?_
    refine K_bipush (q := 94) (v := nI 13) dX12_aLine_92 rfl rfl ?_
    refine K_icmp_ne (q := 97) (tgt := 107) dX12_aLine_94 rfl ?_ rfl ?_
    · exact J_sub [0] (tX12_aLine_107  M1) rfl
    · refine K_aload_n (q := 98) 0 dX12_aLine_97 rfl rfl rfl ?_
      refine K_iconst (q := 99) (v := nI 2) dX12_aLine_98 rfl rfl ?_
      refine K_iconst (q := 100) (v := nI 0) dX12_aLine_99 rfl rfl ?_
      refine K_iconst (q := 101) (v := nI 2) dX12_aLine_100 rfl rfl ?_
      refine K_cvi (q := 104) [.inl ((nI 2)), .inl ((nI 0)), .inl ((nI 2))] dX12_aLine_101 cb_X12_number cvRX12_286 rc_7 (show (17 : Nat) ≠ 0 by decide) rfl (Nat.le_of_ble_eq_true rfl) ⟨by decide, by decide⟩ (Nat.le_of_ble_eq_true rfl) rfl (tX12_number (nI 2) (nI 0) (nI 2) M1) rfl (fun v4 M3 => ?_)
      refine K_if_eq (q := 107) (tgt := 121) dX12_aLine_104 rfl ?_ rfl ?_
      · refine K_iconst (q := 122) (v := nI 0) dX12_aLine_121 rfl rfl ?_
        exact J_zret dX12_aLine_122 (by decide)
      · exact J_sub [0] (tX12_aLine_107  M3) rfl
  · refine K_iconst (q := 90) (v := nI 0) dX12_aLine_89 rfl rfl ?_
    exact J_zret dX12_aLine_90 (by decide)
def xX12_aLine_68   (l1 : Int32) (s0 : Int32) (M : j_M) : Option (Int32 × j_M) := (if l1 = (nI 14) then xX12_aLine_82  l1 s0 (nI 1) (nI 0) M else xX12_aLine_82  l1 s0 (nI 1) (nI 1) M)
set_option maxRecDepth 20000 in
set_option maxHeartbeats 2000000 in
theorem tX12_aLine_68    (l1 : Int32) (s0 : Int32) (M : j_M) : J (ρ := Int32 × j_M) yX12_aLine cX12_aLine 3 (some .boolean) 10 247 j_ei 68 [(0, .inr (17, 0, 200)), (1, .inl (l1))] [.inl (s0)] M (xX12_aLine_68  l1 s0 M) := by
  unfold xX12_aLine_68
  refine K_istore_n (q := 69) (ll' := [(2, .inl (s0)), (0, .inr (17, 0, 200)), (1, .inl (l1))]) dX12_aLine_68 rfl (by decide) rfl rfl ?_
  refine K_aload_n (q := 70) 1 dX12_aLine_69 rfl rfl rfl ?_
  refine K_iconst (q := 71) (v := nI 1) dX12_aLine_70 rfl rfl ?_
  refine K_iload_n (q := 72) 2 dX12_aLine_71 rfl rfl rfl ?_
  refine K_bipush (q := 74) (v := nI 14) dX12_aLine_72 rfl rfl ?_
  refine K_icmp_ne (q := 77) (tgt := 81) dX12_aLine_74 rfl ?_ rfl ?_
  · refine K_iconst (q := 82) (v := nI 1) dX12_aLine_81 rfl rfl ?_
    exact J_sub [1, 2, 0] (tX12_aLine_82  l1 s0 (nI 1) (nI 1) M) rfl
  · refine K_iconst (q := 78) (v := nI 0) dX12_aLine_77 rfl rfl ?_
    refine J_goto (tgt := 82) dX12_aLine_78 rfl ?_
    exact J_sub [1, 2, 0] (tX12_aLine_82  l1 s0 (nI 1) (nI 0) M) rfl
def xX12_aLine   (M : j_M) : Option (Int32 × j_M) := oli (M 200 13) fun v1 => (if v1 = (nI 2) then obi (xX12_ofCpu M) fun v7 M6 => gz v7 (some (v7, M6)) else oli (M 200 13) fun v2 => oli (M 200 16) fun v3 => gd ((nI 4) * v3) 1600 (oml (mw M 206 (ix ((nI 4) * v3)) v2) fun M4 => obv (xX12_goesOn M4) fun M5 => (if (nI 10) < v2 then (if v2 = (nI 11) then xX12_aLine_68  v2 (nI 99) M5 else (if v2 = (nI 14) then xX12_aLine_68  v2 (nI 3) M5 else xX12_aLine_68  v2 (nI 60) M5)) else xX12_aLine_68  v2 (nI 50) M5)))
set_option maxRecDepth 20000 in
set_option maxHeartbeats 2000000 in
theorem tX12_aLine   (M : j_M) : J (ρ := Int32 × j_M) yX12_aLine cX12_aLine 3 (some .boolean) 10 247 j_ei 0 [(0, .inr (17, 0, 200))] [] M (xX12_aLine   M) := by
  unfold xX12_aLine
  refine K_aload_n (q := 1) 0 dX12_aLine_0 rfl rfl rfl ?_
  refine K_getI (q := 4) (ci := 7) 13 dX12_aLine_1 fRX12_253 rfl rfl rfl (fun v1 => ?_)
  refine K_iconst (q := 5) (v := nI 2) dX12_aLine_4 rfl rfl ?_
  refine K_icmp_ne (q := 8) (tgt := 13) dX12_aLine_5 rfl ?_ rfl ?_
  · refine K_aload_n (q := 14) 0 dX12_aLine_13 rfl rfl rfl ?_
    refine K_getI (q := 17) (ci := 7) 13 dX12_aLine_14 fRX12_253 rfl rfl rfl (fun v2 => ?_)
    refine K_istore_n (q := 18) (ll' := [(1, .inl (v2)), (0, .inr (17, 0, 200))]) dX12_aLine_17 rfl (by decide) rfl rfl ?_
    refine K_aload_n (q := 19) 1 dX12_aLine_18 rfl rfl rfl ?_
    refine K_getR (q := 22) (ci := 7) (a2 := 206) 6 dX12_aLine_19 fRX12_26 rfl rfl (by decide) rfl rfl ?_
    refine K_iconst (q := 23) (v := nI 4) dX12_aLine_22 rfl rfl ?_
    refine K_aload_n (q := 24) 1 dX12_aLine_23 rfl rfl rfl ?_
    refine K_getI (q := 27) (ci := 7) 16 dX12_aLine_24 fRX12_280 rfl rfl rfl (fun v3 => ?_)
    refine K_imul (q := 28) dX12_aLine_27 rfl ?_
    refine K_iload_n (q := 29) 0 dX12_aLine_28 rfl rfl rfl ?_
    refine K_iast (q := 30) dX12_aLine_29 rfl (fun M4 => ?_)
    refine K_aload_n (q := 31) 1 dX12_aLine_30 rfl rfl rfl ?_
    refine K_cvv (q := 34) [] dX12_aLine_31 cb_X12_goesOn cvRX12_277 rc_7 (show (17 : Nat) ≠ 0 by decide) rfl (Nat.le_of_ble_eq_true rfl) ⟨by decide, by decide⟩ (Nat.le_of_ble_eq_true rfl) rfl (tX12_goesOn M4) rfl (fun M5 => ?_)
    refine K_iload_n (q := 35) 0 dX12_aLine_34 rfl rfl rfl ?_
    refine K_bipush (q := 37) (v := nI 10) dX12_aLine_35 rfl rfl ?_
    refine K_icmp_gt (q := 40) (tgt := 45) dX12_aLine_37 rfl ?_ rfl ?_
    · refine K_iload_n (q := 46) 0 dX12_aLine_45 rfl rfl rfl ?_
      refine K_bipush (q := 48) (v := nI 11) dX12_aLine_46 rfl rfl ?_
      refine K_icmp_ne (q := 51) (tgt := 56) dX12_aLine_48 rfl ?_ rfl ?_
      · refine K_iload_n (q := 57) 0 dX12_aLine_56 rfl rfl rfl ?_
        refine K_bipush (q := 59) (v := nI 14) dX12_aLine_57 rfl rfl ?_
        refine K_icmp_ne (q := 62) (tgt := 66) dX12_aLine_59 rfl ?_ rfl ?_
        · refine K_bipush (q := 68) (v := nI 60) dX12_aLine_66 rfl rfl ?_
          exact J_sub [1, 0] (tX12_aLine_68  v2 (nI 60) M5) rfl
        · refine K_iconst (q := 63) (v := nI 3) dX12_aLine_62 rfl rfl ?_
          refine J_goto (tgt := 68) dX12_aLine_63 rfl ?_
          exact J_sub [1, 0] (tX12_aLine_68  v2 (nI 3) M5) rfl
      · refine K_bipush (q := 53) (v := nI 99) dX12_aLine_51 rfl rfl ?_
        refine J_goto (tgt := 68) dX12_aLine_53 rfl ?_
        exact J_sub [1, 0] (tX12_aLine_68  v2 (nI 99) M5) rfl
    · refine K_bipush (q := 42) (v := nI 50) dX12_aLine_40 rfl rfl ?_
      refine J_goto (tgt := 68) dX12_aLine_42 rfl ?_
      exact J_sub [1, 0] (tX12_aLine_68  v2 (nI 50) M5) rfl
  · refine K_aload_n (q := 9) 0 dX12_aLine_8 rfl rfl rfl ?_
    refine K_cvi (q := 12) [] dX12_aLine_9 cb_X12_ofCpu cvRX12_304 rc_7 (show (17 : Nat) ≠ 0 by decide) rfl (Nat.le_of_ble_eq_true rfl) ⟨by decide, by decide⟩ (Nat.le_of_ble_eq_true rfl) rfl (tX12_ofCpu M) rfl (fun v7 M6 => ?_)
    exact J_zretG dX12_aLine_12
theorem dX12_readsPlan_0 : decode cX12_readsPlan 0 = .ok (.aload_n 0, 1) := by decide +kernel
theorem dX12_readsPlan_1 : decode cX12_readsPlan 1 = .ok (.iconst 0, 1) := by decide +kernel
theorem dX12_readsPlan_2 : decode cX12_readsPlan 2 = .ok (.putfield 280, 3) := by decide +kernel
theorem dX12_readsPlan_5 : decode cX12_readsPlan 5 = .ok (.aload_n 0, 1) := by decide +kernel
theorem dX12_readsPlan_6 : decode cX12_readsPlan 6 = .ok (.iconst 0, 1) := by decide +kernel
theorem dX12_readsPlan_7 : decode cX12_readsPlan 7 = .ok (.putfield 203, 3) := by decide +kernel
theorem dX12_readsPlan_10 : decode cX12_readsPlan 10 = .ok (.aload_n 0, 1) := by decide +kernel
theorem dX12_readsPlan_11 : decode cX12_readsPlan 11 = .ok (.invokevirtual 277, 3) := by decide +kernel
theorem dX12_readsPlan_14 : decode cX12_readsPlan 14 = .ok (.aload_n 0, 1) := by decide +kernel
theorem dX12_readsPlan_15 : decode cX12_readsPlan 15 = .ok (.getfield 253, 3) := by decide +kernel
theorem dX12_readsPlan_18 : decode cX12_readsPlan 18 = .ok (.ifCond .eq 121, 3) := by decide +kernel
theorem dX12_readsPlan_21 : decode cX12_readsPlan 21 = .ok (.aload_n 0, 1) := by decide +kernel
theorem dX12_readsPlan_22 : decode cX12_readsPlan 22 = .ok (.getfield 253, 3) := by decide +kernel
theorem dX12_readsPlan_25 : decode cX12_readsPlan 25 = .ok (.iconst 2, 1) := by decide +kernel
theorem dX12_readsPlan_26 : decode cX12_readsPlan 26 = .ok (.if_icmp .eq 23, 3) := by decide +kernel
theorem dX12_readsPlan_29 : decode cX12_readsPlan 29 = .ok (.aload_n 0, 1) := by decide +kernel
theorem dX12_readsPlan_30 : decode cX12_readsPlan 30 = .ok (.getfield 253, 3) := by decide +kernel
theorem dX12_readsPlan_33 : decode cX12_readsPlan 33 = .ok (.bipush 9, 2) := by decide +kernel
theorem dX12_readsPlan_35 : decode cX12_readsPlan 35 = .ok (.bipush 14, 2) := by decide +kernel
theorem dX12_readsPlan_37 : decode cX12_readsPlan 37 = .ok (.invokestatic 65, 3) := by decide +kernel
theorem dX12_readsPlan_40 : decode cX12_readsPlan 40 = .ok (.ifCond .ne 9, 3) := by decide +kernel
theorem dX12_readsPlan_43 : decode cX12_readsPlan 43 = .ok (.aload_n 0, 1) := by decide +kernel
theorem dX12_readsPlan_44 : decode cX12_readsPlan 44 = .ok (.iconst 1, 1) := by decide +kernel
theorem dX12_readsPlan_45 : decode cX12_readsPlan 45 = .ok (.invokevirtual 274, 3) := by decide +kernel
theorem dX12_readsPlan_48 : decode cX12_readsPlan 48 = .ok (.ireturn, 1) := by decide +kernel
theorem dX12_readsPlan_49 : decode cX12_readsPlan 49 = .ok (.aload_n 0, 1) := by decide +kernel
theorem dX12_readsPlan_50 : decode cX12_readsPlan 50 = .ok (.getfield 253, 3) := by decide +kernel
theorem dX12_readsPlan_53 : decode cX12_readsPlan 53 = .ok (.iconst 2, 1) := by decide +kernel
theorem dX12_readsPlan_54 : decode cX12_readsPlan 54 = .ok (.if_icmp .ne 21, 3) := by decide +kernel
theorem dX12_readsPlan_57 : decode cX12_readsPlan 57 = .ok (.aload_n 0, 1) := by decide +kernel
theorem dX12_readsPlan_58 : decode cX12_readsPlan 58 = .ok (.getfield 265, 3) := by decide +kernel
theorem dX12_readsPlan_61 : decode cX12_readsPlan 61 = .ok (.iconst 0, 1) := by decide +kernel
theorem dX12_readsPlan_62 : decode cX12_readsPlan 62 = .ok (.iconst 5, 1) := by decide +kernel
theorem dX12_readsPlan_63 : decode cX12_readsPlan 63 = .ok (.invokestatic 65, 3) := by decide +kernel
theorem dX12_readsPlan_66 : decode cX12_readsPlan 66 = .ok (.ifCond .ne 9, 3) := by decide +kernel
theorem dX12_readsPlan_69 : decode cX12_readsPlan 69 = .ok (.aload_n 0, 1) := by decide +kernel
theorem dX12_readsPlan_70 : decode cX12_readsPlan 70 = .ok (.iconst 2, 1) := by decide +kernel
theorem dX12_readsPlan_71 : decode cX12_readsPlan 71 = .ok (.invokevirtual 274, 3) := by decide +kernel
theorem dX12_readsPlan_74 : decode cX12_readsPlan 74 = .ok (.ireturn, 1) := by decide +kernel
theorem dX12_readsPlan_75 : decode cX12_readsPlan 75 = .ok (.aload_n 0, 1) := by decide +kernel
theorem dX12_readsPlan_76 : decode cX12_readsPlan 76 = .ok (.getfield 280, 3) := by decide +kernel
theorem dX12_readsPlan_79 : decode cX12_readsPlan 79 = .ok (.bipush 24, 2) := by decide +kernel
theorem dX12_readsPlan_81 : decode cX12_readsPlan 81 = .ok (.if_icmp .ne 9, 3) := by decide +kernel
theorem dX12_readsPlan_84 : decode cX12_readsPlan 84 = .ok (.aload_n 0, 1) := by decide +kernel
theorem dX12_readsPlan_85 : decode cX12_readsPlan 85 = .ok (.iconst 3, 1) := by decide +kernel
theorem dX12_readsPlan_86 : decode cX12_readsPlan 86 = .ok (.invokevirtual 274, 3) := by decide +kernel
theorem dX12_readsPlan_89 : decode cX12_readsPlan 89 = .ok (.ireturn, 1) := by decide +kernel
theorem dX12_readsPlan_90 : decode cX12_readsPlan 90 = .ok (.iconst 0, 1) := by decide +kernel
theorem dX12_readsPlan_91 : decode cX12_readsPlan 91 = .ok (.istore_n 1, 1) := by decide +kernel
theorem dX12_readsPlan_92 : decode cX12_readsPlan 92 = .ok (.iload_n 1, 1) := by decide +kernel
theorem dX12_readsPlan_93 : decode cX12_readsPlan 93 = .ok (.iconst 4, 1) := by decide +kernel
theorem dX12_readsPlan_94 : decode cX12_readsPlan 94 = .ok (.if_icmp .ge 23, 3) := by decide +kernel
theorem dX12_readsPlan_97 : decode cX12_readsPlan 97 = .ok (.aload_n 0, 1) := by decide +kernel
theorem dX12_readsPlan_98 : decode cX12_readsPlan 98 = .ok (.getfield 26, 3) := by decide +kernel
theorem dX12_readsPlan_101 : decode cX12_readsPlan 101 = .ok (.iconst 4, 1) := by decide +kernel
theorem dX12_readsPlan_102 : decode cX12_readsPlan 102 = .ok (.aload_n 0, 1) := by decide +kernel
theorem dX12_readsPlan_103 : decode cX12_readsPlan 103 = .ok (.getfield 280, 3) := by decide +kernel
theorem dX12_readsPlan_106 : decode cX12_readsPlan 106 = .ok (.imul, 1) := by decide +kernel
theorem dX12_readsPlan_107 : decode cX12_readsPlan 107 = .ok (.iload_n 1, 1) := by decide +kernel
theorem dX12_readsPlan_108 : decode cX12_readsPlan 108 = .ok (.iadd, 1) := by decide +kernel
theorem dX12_readsPlan_109 : decode cX12_readsPlan 109 = .ok (.iconst 0, 1) := by decide +kernel
theorem dX12_readsPlan_110 : decode cX12_readsPlan 110 = .ok (.iastore, 1) := by decide +kernel
theorem dX12_readsPlan_111 : decode cX12_readsPlan 111 = .ok (.iinc 1 1, 3) := by decide +kernel
theorem dX12_readsPlan_114 : decode cX12_readsPlan 114 = .ok (.goto (-22), 3) := by decide +kernel
theorem dX12_readsPlan_117 : decode cX12_readsPlan 117 = .ok (.aload_n 0, 1) := by decide +kernel
theorem dX12_readsPlan_118 : decode cX12_readsPlan 118 = .ok (.invokevirtual 307, 3) := by decide +kernel
theorem dX12_readsPlan_121 : decode cX12_readsPlan 121 = .ok (.ifCond .ne 5, 3) := by decide +kernel
theorem dX12_readsPlan_124 : decode cX12_readsPlan 124 = .ok (.iconst 0, 1) := by decide +kernel
theorem dX12_readsPlan_125 : decode cX12_readsPlan 125 = .ok (.ireturn, 1) := by decide +kernel
theorem dX12_readsPlan_126 : decode cX12_readsPlan 126 = .ok (.aload_n 0, 1) := by decide +kernel
theorem dX12_readsPlan_127 : decode cX12_readsPlan 127 = .ok (.dup, 1) := by decide +kernel
theorem dX12_readsPlan_128 : decode cX12_readsPlan 128 = .ok (.getfield 280, 3) := by decide +kernel
theorem dX12_readsPlan_131 : decode cX12_readsPlan 131 = .ok (.iconst 1, 1) := by decide +kernel
theorem dX12_readsPlan_132 : decode cX12_readsPlan 132 = .ok (.iadd, 1) := by decide +kernel
theorem dX12_readsPlan_133 : decode cX12_readsPlan 133 = .ok (.putfield 280, 3) := by decide +kernel
theorem dX12_readsPlan_136 : decode cX12_readsPlan 136 = .ok (.goto (-122), 3) := by decide +kernel
theorem dX12_readsPlan_139 : decode cX12_readsPlan 139 = .ok (.iconst 1, 1) := by decide +kernel
theorem dX12_readsPlan_140 : decode cX12_readsPlan 140 = .ok (.ireturn, 1) := by decide +kernel
def xX12_readsPlan_92 (k14 : j_M → Option (Int32 × j_M))  : Nat → Int32 → j_M → Option (Int32 × j_M)
  | 0, _, _ => none
  | n + 1, l1, M => (if (nI 4) ≤ l1 then obi (xX12_aLine M) fun v2 M1 => (if v2 = (0 : Int32) then some ((nI 0), M1) else oli (M1 200 16) fun v3 => oml (mw M1 200 16 (v3 + (nI 1))) fun M4 => k14 M4) else oli (M 200 16) fun v5 => gd (((nI 4) * v5) + l1) 1600 (oml (mw M 206 (ix (((nI 4) * v5) + l1)) (nI 0)) fun M6 => xX12_readsPlan_92 k14 n (l1 + (nI 1)) M6))
set_option maxRecDepth 20000 in
set_option maxHeartbeats 2000000 in
theorem tX12_readsPlan_92 (k14 : j_M → Option (Int32 × j_M))  (hk14 : ∀ (M : j_M), J (ρ := Int32 × j_M) yX12_readsPlan cX12_readsPlan 2 (some .boolean) 11 269 j_ei 14 [(0, .inr (17, 0, 200))] [] M (k14  M)) : ∀ (n : Nat) (l1 : Int32) (M : j_M), J (ρ := Int32 × j_M) yX12_readsPlan cX12_readsPlan 2 (some .boolean) 11 269 j_ei 92 [(0, .inr (17, 0, 200)), (1, .inl (l1))] [] M (xX12_readsPlan_92 k14 n l1 M) := by
  intro n
  induction n with
  | zero => intros; exact J_none
  | succ n ih =>
    intro l1 M
    rw [xX12_readsPlan_92.eq_2]
    refine K_iload_n (q := 93) 1 dX12_readsPlan_92 rfl rfl rfl ?_
    refine K_iconst (q := 94) (v := nI 4) dX12_readsPlan_93 rfl rfl ?_
    refine K_icmp_ge (q := 97) (tgt := 117) dX12_readsPlan_94 rfl ?_ rfl ?_
    · refine K_aload_n (q := 118) 0 dX12_readsPlan_117 rfl rfl rfl ?_
      refine K_cvi (q := 121) [] dX12_readsPlan_118 cb_X12_aLine cvRX12_307 rc_7 (show (17 : Nat) ≠ 0 by decide) rfl (Nat.le_of_ble_eq_true rfl) ⟨by decide, by decide⟩ (Nat.le_of_ble_eq_true rfl) rfl (tX12_aLine M) rfl (fun v2 M1 => ?_)
      refine K_if_ne (q := 124) (tgt := 126) dX12_readsPlan_121 rfl ?_ rfl ?_
      · refine K_aload_n (q := 127) 0 dX12_readsPlan_126 rfl rfl rfl ?_
        refine K_dup (q := 128) dX12_readsPlan_127 rfl ?_
        refine K_getI (q := 131) (ci := 7) 16 dX12_readsPlan_128 fRX12_280 rfl rfl rfl (fun v3 => ?_)
        refine K_iconst (q := 132) (v := nI 1) dX12_readsPlan_131 rfl rfl ?_
        refine K_iadd (q := 133) dX12_readsPlan_132 rfl ?_
        refine K_putI (q := 136) (ci := 7) 16 dX12_readsPlan_133 fRX12_280 fp_7_16 rfl rfl (by decide) rfl (fun M4 => ?_)
        refine J_goto (tgt := 14) dX12_readsPlan_136 rfl ?_
        exact J_sub [0] (hk14 M4) rfl
      · refine K_iconst (q := 125) (v := nI 0) dX12_readsPlan_124 rfl rfl ?_
        exact J_zret dX12_readsPlan_125 (by decide)
    · refine K_aload_n (q := 98) 0 dX12_readsPlan_97 rfl rfl rfl ?_
      refine K_getR (q := 101) (ci := 7) (a2 := 206) 6 dX12_readsPlan_98 fRX12_26 rfl rfl (by decide) rfl rfl ?_
      refine K_iconst (q := 102) (v := nI 4) dX12_readsPlan_101 rfl rfl ?_
      refine K_aload_n (q := 103) 0 dX12_readsPlan_102 rfl rfl rfl ?_
      refine K_getI (q := 106) (ci := 7) 16 dX12_readsPlan_103 fRX12_280 rfl rfl rfl (fun v5 => ?_)
      refine K_imul (q := 107) dX12_readsPlan_106 rfl ?_
      refine K_iload_n (q := 108) 1 dX12_readsPlan_107 rfl rfl rfl ?_
      refine K_iadd (q := 109) dX12_readsPlan_108 rfl ?_
      refine K_iconst (q := 110) (v := nI 0) dX12_readsPlan_109 rfl rfl ?_
      refine K_iast (q := 111) dX12_readsPlan_110 rfl (fun M6 => ?_)
      refine K_iinc (q := 114) (v := l1 + (nI 1)) (ll' := [(1, .inl (l1 + (nI 1))), (0, .inr (17, 0, 200))]) 1 dX12_readsPlan_111 rfl rfl (by decide) rfl rfl ?_
      refine J_goto (tgt := 92) dX12_readsPlan_114 rfl ?_
      exact J_sub [1, 0] (ih (l1 + (nI 1)) M6) rfl
def xX12_readsPlan_75 (k14 : j_M → Option (Int32 × j_M))   (M : j_M) : Option (Int32 × j_M) := oli (M 200 16) fun v1 => (if v1 = (nI 24) then obi (xX12_bad (nI 3) M) fun v3 M2 => gz v3 (some (v3, M2)) else xX12_readsPlan_92 k14 fu (nI 0) M)
set_option maxRecDepth 20000 in
set_option maxHeartbeats 2000000 in
theorem tX12_readsPlan_75 (k14 : j_M → Option (Int32 × j_M))  (hk14 : ∀ (M : j_M), J (ρ := Int32 × j_M) yX12_readsPlan cX12_readsPlan 2 (some .boolean) 11 269 j_ei 14 [(0, .inr (17, 0, 200))] [] M (k14  M))  (M : j_M) : J (ρ := Int32 × j_M) yX12_readsPlan cX12_readsPlan 2 (some .boolean) 11 269 j_ei 75 [(0, .inr (17, 0, 200))] [] M (xX12_readsPlan_75 k14  M) := by
  unfold xX12_readsPlan_75
  refine K_aload_n (q := 76) 0 dX12_readsPlan_75 rfl rfl rfl ?_
  refine K_getI (q := 79) (ci := 7) 16 dX12_readsPlan_76 fRX12_280 rfl rfl rfl (fun v1 => ?_)
  refine K_bipush (q := 81) (v := nI 24) dX12_readsPlan_79 rfl rfl ?_
  refine K_icmp_ne (q := 84) (tgt := 90) dX12_readsPlan_81 rfl ?_ rfl ?_
  · refine K_iconst (q := 91) (v := nI 0) dX12_readsPlan_90 rfl rfl ?_
    refine K_istore_n (q := 92) (ll' := [(1, .inl ((nI 0))), (0, .inr (17, 0, 200))]) dX12_readsPlan_91 rfl (by decide) rfl rfl ?_
    exact J_sub [1, 0] (tX12_readsPlan_92 k14 hk14 fu (nI 0) M) rfl
  · refine K_aload_n (q := 85) 0 dX12_readsPlan_84 rfl rfl rfl ?_
    refine K_iconst (q := 86) (v := nI 3) dX12_readsPlan_85 rfl rfl ?_
    refine K_cvi (q := 89) [.inl ((nI 3))] dX12_readsPlan_86 cb_X12_bad cvRX12_274 rc_7 (show (17 : Nat) ≠ 0 by decide) rfl (Nat.le_of_ble_eq_true rfl) ⟨by decide, by decide⟩ (Nat.le_of_ble_eq_true rfl) rfl (tX12_bad (nI 3) M) rfl (fun v3 M2 => ?_)
    exact J_zretG dX12_readsPlan_89
def xX12_readsPlan_49 (k14 : j_M → Option (Int32 × j_M))   (M : j_M) : Option (Int32 × j_M) := oli (M 200 13) fun v1 => (if v1 = (nI 2) then oli (M 200 15) fun v2 => obi (xX12_isIn v2 (nI 0) (nI 5) M) fun v4 M3 => (if v4 = (0 : Int32) then obi (xX12_bad (nI 2) M3) fun v6 M5 => gz v6 (some (v6, M5)) else xX12_readsPlan_75 k14 M3) else xX12_readsPlan_75 k14 M)
set_option maxRecDepth 20000 in
set_option maxHeartbeats 2000000 in
theorem tX12_readsPlan_49 (k14 : j_M → Option (Int32 × j_M))  (hk14 : ∀ (M : j_M), J (ρ := Int32 × j_M) yX12_readsPlan cX12_readsPlan 2 (some .boolean) 11 269 j_ei 14 [(0, .inr (17, 0, 200))] [] M (k14  M))  (M : j_M) : J (ρ := Int32 × j_M) yX12_readsPlan cX12_readsPlan 2 (some .boolean) 11 269 j_ei 49 [(0, .inr (17, 0, 200))] [] M (xX12_readsPlan_49 k14  M) := by
  unfold xX12_readsPlan_49
  refine K_aload_n (q := 50) 0 dX12_readsPlan_49 rfl rfl rfl ?_
  refine K_getI (q := 53) (ci := 7) 13 dX12_readsPlan_50 fRX12_253 rfl rfl rfl (fun v1 => ?_)
  refine K_iconst (q := 54) (v := nI 2) dX12_readsPlan_53 rfl rfl ?_
  refine K_icmp_ne (q := 57) (tgt := 75) dX12_readsPlan_54 rfl ?_ rfl ?_
  · exact J_sub [0] (tX12_readsPlan_75 k14 hk14 M) rfl
  · refine K_aload_n (q := 58) 0 dX12_readsPlan_57 rfl rfl rfl ?_
    refine K_getI (q := 61) (ci := 7) 15 dX12_readsPlan_58 fRX12_265 rfl rfl rfl (fun v2 => ?_)
    refine K_iconst (q := 62) (v := nI 0) dX12_readsPlan_61 rfl rfl ?_
    refine K_iconst (q := 63) (v := nI 5) dX12_readsPlan_62 rfl rfl ?_
    refine K_csi (q := 66) [.inl (v2), .inl ((nI 0)), .inl ((nI 5))] dX12_readsPlan_63 cb_X12_isIn cvRX12_65 rfl (Nat.le_of_ble_eq_true rfl) ⟨by decide, by decide⟩ (Nat.le_of_ble_eq_true rfl) rfl (tX12_isIn v2 (nI 0) (nI 5) M) rfl (fun v4 M3 => ?_)
    refine K_if_ne (q := 69) (tgt := 75) dX12_readsPlan_66 rfl ?_ rfl ?_
    · exact J_sub [0] (tX12_readsPlan_75 k14 hk14 M3) rfl
    · refine K_aload_n (q := 70) 0 dX12_readsPlan_69 rfl rfl rfl ?_
      refine K_iconst (q := 71) (v := nI 2) dX12_readsPlan_70 rfl rfl ?_
      refine K_cvi (q := 74) [.inl ((nI 2))] dX12_readsPlan_71 cb_X12_bad cvRX12_274 rc_7 (show (17 : Nat) ≠ 0 by decide) rfl (Nat.le_of_ble_eq_true rfl) ⟨by decide, by decide⟩ (Nat.le_of_ble_eq_true rfl) rfl (tX12_bad (nI 2) M3) rfl (fun v6 M5 => ?_)
      exact J_zretG dX12_readsPlan_74
def xX12_readsPlan_14   : Nat → j_M → Option (Int32 × j_M)
  | 0, _ => none
  | n + 1, M => oli (M 200 13) fun v1 => (if v1 = (0 : Int32) then some ((nI 1), M) else oli (M 200 13) fun v2 => (if v2 = (nI 2) then xX12_readsPlan_49 (xX12_readsPlan_14  n) M else oli (M 200 13) fun v3 => obi (xX12_isIn v3 (nI 9) (nI 14) M) fun v5 M4 => (if v5 = (0 : Int32) then obi (xX12_bad (nI 1) M4) fun v7 M6 => gz v7 (some (v7, M6)) else xX12_readsPlan_49 (xX12_readsPlan_14  n) M4)))
set_option maxRecDepth 20000 in
set_option maxHeartbeats 2000000 in
theorem tX12_readsPlan_14    : ∀ (n : Nat) (M : j_M), J (ρ := Int32 × j_M) yX12_readsPlan cX12_readsPlan 2 (some .boolean) 11 269 j_ei 14 [(0, .inr (17, 0, 200))] [] M (xX12_readsPlan_14  n  M) := by
  intro n
  induction n with
  | zero => intros; exact J_none
  | succ n ih =>
    intro  M
    rw [xX12_readsPlan_14.eq_2]
    refine K_aload_n (q := 15) 0 dX12_readsPlan_14 rfl rfl rfl ?_
    refine K_getI (q := 18) (ci := 7) 13 dX12_readsPlan_15 fRX12_253 rfl rfl rfl (fun v1 => ?_)
    refine K_if_eq (q := 21) (tgt := 139) dX12_readsPlan_18 rfl ?_ rfl ?_
    · refine K_iconst (q := 140) (v := nI 1) dX12_readsPlan_139 rfl rfl ?_
      exact J_zret dX12_readsPlan_140 (by decide)
    · refine K_aload_n (q := 22) 0 dX12_readsPlan_21 rfl rfl rfl ?_
      refine K_getI (q := 25) (ci := 7) 13 dX12_readsPlan_22 fRX12_253 rfl rfl rfl (fun v2 => ?_)
      refine K_iconst (q := 26) (v := nI 2) dX12_readsPlan_25 rfl rfl ?_
      refine K_icmp_eq (q := 29) (tgt := 49) dX12_readsPlan_26 rfl ?_ rfl ?_
      · exact J_sub [0] (tX12_readsPlan_49 (xX12_readsPlan_14  n) ih M) rfl
      · refine K_aload_n (q := 30) 0 dX12_readsPlan_29 rfl rfl rfl ?_
        refine K_getI (q := 33) (ci := 7) 13 dX12_readsPlan_30 fRX12_253 rfl rfl rfl (fun v3 => ?_)
        refine K_bipush (q := 35) (v := nI 9) dX12_readsPlan_33 rfl rfl ?_
        refine K_bipush (q := 37) (v := nI 14) dX12_readsPlan_35 rfl rfl ?_
        refine K_csi (q := 40) [.inl (v3), .inl ((nI 9)), .inl ((nI 14))] dX12_readsPlan_37 cb_X12_isIn cvRX12_65 rfl (Nat.le_of_ble_eq_true rfl) ⟨by decide, by decide⟩ (Nat.le_of_ble_eq_true rfl) rfl (tX12_isIn v3 (nI 9) (nI 14) M) rfl (fun v5 M4 => ?_)
        refine K_if_ne (q := 43) (tgt := 49) dX12_readsPlan_40 rfl ?_ rfl ?_
        · exact J_sub [0] (tX12_readsPlan_49 (xX12_readsPlan_14  n) ih M4) rfl
        · refine K_aload_n (q := 44) 0 dX12_readsPlan_43 rfl rfl rfl ?_
          refine K_iconst (q := 45) (v := nI 1) dX12_readsPlan_44 rfl rfl ?_
          refine K_cvi (q := 48) [.inl ((nI 1))] dX12_readsPlan_45 cb_X12_bad cvRX12_274 rc_7 (show (17 : Nat) ≠ 0 by decide) rfl (Nat.le_of_ble_eq_true rfl) ⟨by decide, by decide⟩ (Nat.le_of_ble_eq_true rfl) rfl (tX12_bad (nI 1) M4) rfl (fun v7 M6 => ?_)
          exact J_zretG dX12_readsPlan_48
def xX12_readsPlan   (M : j_M) : Option (Int32 × j_M) := oml (mw M 200 16 (nI 0)) fun M1 => oml (mw M1 200 12 (nI 0)) fun M2 => obv (xX12_goesOn M2) fun M3 => xX12_readsPlan_14 fu M3
set_option maxRecDepth 20000 in
set_option maxHeartbeats 2000000 in
theorem tX12_readsPlan   (M : j_M) : J (ρ := Int32 × j_M) yX12_readsPlan cX12_readsPlan 2 (some .boolean) 11 269 j_ei 0 [(0, .inr (17, 0, 200))] [] M (xX12_readsPlan   M) := by
  unfold xX12_readsPlan
  refine K_aload_n (q := 1) 0 dX12_readsPlan_0 rfl rfl rfl ?_
  refine K_iconst (q := 2) (v := nI 0) dX12_readsPlan_1 rfl rfl ?_
  refine K_putI (q := 5) (ci := 7) 16 dX12_readsPlan_2 fRX12_280 fp_7_16 rfl rfl (by decide) rfl (fun M1 => ?_)
  refine K_aload_n (q := 6) 0 dX12_readsPlan_5 rfl rfl rfl ?_
  refine K_iconst (q := 7) (v := nI 0) dX12_readsPlan_6 rfl rfl ?_
  refine K_putI (q := 10) (ci := 7) 12 dX12_readsPlan_7 fRX12_203 fp_7_12 rfl rfl (by decide) rfl (fun M2 => ?_)
  refine K_aload_n (q := 11) 0 dX12_readsPlan_10 rfl rfl rfl ?_
  refine K_cvv (q := 14) [] dX12_readsPlan_11 cb_X12_goesOn cvRX12_277 rc_7 (show (17 : Nat) ≠ 0 by decide) rfl (Nat.le_of_ble_eq_true rfl) ⟨by decide, by decide⟩ (Nat.le_of_ble_eq_true rfl) rfl (tX12_goesOn M2) rfl (fun M3 => ?_)
  exact J_sub [0] (tX12_readsPlan_14 fu M3) rfl
