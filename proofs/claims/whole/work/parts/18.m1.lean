theorem ws_in7 : ∀ w ∈ u_ws RX12 TX12 32, w ∈ j_ws := j_in_r _ [1209, 1211, 1213, 1215, 1217, 1219, 1221, 1223, 1225, 1227, 1229, 1231, 1233, 1235, 1237, 1239, 1241, 1243, 1245, 1247, 1249, 1251, 1253, 1255, 1257, 1259, 1261, 1263, 1265, 1267, 1269, 1271] (by decide +kernel) (by decide +kernel)
theorem fRX12_9 : j_F RX12 9 7 0 := ⟨RX12, TX12, 32, rfl, by decide, ws_in7, j_in 1177 (by decide +kernel) (by decide +kernel)⟩
theorem cb_X12_of : j_CB yX12_of cX12_of 3 (some .int) 2 := ⟨by decide +kernel, j_in 1356 (by decide +kernel) (by decide +kernel), j_in 114 (by decide +kernel) (by decide +kernel), by decide +kernel, by decide +kernel, by decide +kernel⟩
theorem cvRX12_79 : j_CV RX12 79 yX12_of := ⟨Or.inl (j_in 1353 (by decide +kernel) (by decide +kernel)), j_in 1355 (by decide +kernel) (by decide +kernel), j_in 38 (by decide +kernel) (by decide +kernel)⟩
theorem cb_X12_asking : j_CB yX12_asking cX12_asking 3 (some .int) 0 := ⟨by decide +kernel, j_in 1352 (by decide +kernel) (by decide +kernel), j_in 114 (by decide +kernel) (by decide +kernel), by decide +kernel, by decide +kernel, by decide +kernel⟩
theorem cvRX12_82 : j_CV RX12 82 yX12_asking := ⟨Or.inl (j_in 1349 (by decide +kernel) (by decide +kernel)), j_in 1351 (by decide +kernel) (by decide +kernel), j_in 37 (by decide +kernel) (by decide +kernel)⟩
theorem cb_X12_sends : j_CB yX12_sends cX12_sends 7 (some .int) 4 := ⟨by decide +kernel, j_in 1360 (by decide +kernel) (by decide +kernel), j_in 114 (by decide +kernel) (by decide +kernel), by decide +kernel, by decide +kernel, by decide +kernel⟩
theorem cvRX12_86 : j_CV RX12 86 yX12_sends := ⟨Or.inl (j_in 1357 (by decide +kernel) (by decide +kernel)), j_in 1359 (by decide +kernel) (by decide +kernel), j_in 39 (by decide +kernel) (by decide +kernel)⟩
theorem cb_X12_asksOne : j_CB yX12_asksOne cX12_asksOne 3 none 2 := ⟨by decide +kernel, j_in 1348 (by decide +kernel) (by decide +kernel), j_in 114 (by decide +kernel) (by decide +kernel), by decide +kernel, by decide +kernel, by decide +kernel⟩
theorem cvRX12_90 : j_CV RX12 90 yX12_asksOne := ⟨Or.inl (j_in 1345 (by decide +kernel) (by decide +kernel)), j_in 1347 (by decide +kernel) (by decide +kernel), j_in 36 (by decide +kernel) (by decide +kernel)⟩
theorem cb_X12_place : j_CB yX12_place cX12_place 2 (some .int) 2 := ⟨by decide +kernel, j_in 1176 (by decide +kernel) (by decide +kernel), j_in 114 (by decide +kernel) (by decide +kernel), by decide +kernel, by decide +kernel, by decide +kernel⟩
theorem cvRX12_61 : j_CS RX12 61 yX12_place := ⟨Or.inl (j_in 1174 (by decide +kernel) (by decide +kernel)), j_in 1175 (by decide +kernel) (by decide +kernel)⟩
theorem cb_X12_asksAll : j_CB yX12_asksAll cX12_asksAll 3 none 1 := ⟨by decide +kernel, j_in 1344 (by decide +kernel) (by decide +kernel), j_in 114 (by decide +kernel) (by decide +kernel), by decide +kernel, by decide +kernel, by decide +kernel⟩
theorem cvRX12_94 : j_CV RX12 94 yX12_asksAll := ⟨Or.inl (j_in 1341 (by decide +kernel) (by decide +kernel)), j_in 1343 (by decide +kernel) (by decide +kernel), j_in 35 (by decide +kernel) (by decide +kernel)⟩
theorem cb_X12_usedAt : j_CB yX12_usedAt cX12_usedAt 4 (some .int) 2 := ⟨by decide +kernel, j_in 1336 (by decide +kernel) (by decide +kernel), j_in 114 (by decide +kernel) (by decide +kernel), by decide +kernel, by decide +kernel, by decide +kernel⟩
theorem cvRX12_98 : j_CV RX12 98 yX12_usedAt := ⟨Or.inl (j_in 1333 (by decide +kernel) (by decide +kernel)), j_in 1335 (by decide +kernel) (by decide +kernel), j_in 33 (by decide +kernel) (by decide +kernel)⟩
theorem cb_X12_forgets : j_CB yX12_forgets cX12_forgets 5 none 2 := ⟨by decide +kernel, j_in 1332 (by decide +kernel) (by decide +kernel), j_in 114 (by decide +kernel) (by decide +kernel), by decide +kernel, by decide +kernel, by decide +kernel⟩
theorem cvRX12_101 : j_CV RX12 101 yX12_forgets := ⟨Or.inl (j_in 1329 (by decide +kernel) (by decide +kernel)), j_in 1331 (by decide +kernel) (by decide +kernel), j_in 32 (by decide +kernel) (by decide +kernel)⟩
theorem cb_X12_sees : j_CB yX12_sees cX12_sees 3 none 2 := ⟨by decide +kernel, j_in 1324 (by decide +kernel) (by decide +kernel), j_in 114 (by decide +kernel) (by decide +kernel), by decide +kernel, by decide +kernel, by decide +kernel⟩
theorem cvRX12_131 : j_CV RX12 131 yX12_sees := ⟨Or.inl (j_in 1321 (by decide +kernel) (by decide +kernel)), j_in 1323 (by decide +kernel) (by decide +kernel), j_in 30 (by decide +kernel) (by decide +kernel)⟩
theorem cb_X12_uses : j_CB yX12_uses cX12_uses 3 none 2 := ⟨by decide +kernel, j_in 1328 (by decide +kernel) (by decide +kernel), j_in 114 (by decide +kernel) (by decide +kernel), by decide +kernel, by decide +kernel, by decide +kernel⟩
theorem cvRX12_134 : j_CV RX12 134 yX12_uses := ⟨Or.inl (j_in 1325 (by decide +kernel) (by decide +kernel)), j_in 1327 (by decide +kernel) (by decide +kernel), j_in 31 (by decide +kernel) (by decide +kernel)⟩
theorem cb_X12_isHit : j_CB yX12_isHit cX12_isHit 5 (some .boolean) 3 := ⟨by decide +kernel, j_in 1312 (by decide +kernel) (by decide +kernel), j_in 114 (by decide +kernel) (by decide +kernel), by decide +kernel, by decide +kernel, by decide +kernel⟩
theorem cvRX12_143 : j_CV RX12 143 yX12_isHit := ⟨Or.inl (j_in 1309 (by decide +kernel) (by decide +kernel)), j_in 1311 (by decide +kernel) (by decide +kernel), j_in 27 (by decide +kernel) (by decide +kernel)⟩
theorem cb_X12_notes : j_CB yX12_notes cX12_notes 5 none 3 := ⟨by decide +kernel, j_in 1316 (by decide +kernel) (by decide +kernel), j_in 114 (by decide +kernel) (by decide +kernel), by decide +kernel, by decide +kernel, by decide +kernel⟩
theorem cvRX12_122 : j_CV RX12 122 yX12_notes := ⟨Or.inl (j_in 1313 (by decide +kernel) (by decide +kernel)), j_in 1315 (by decide +kernel) (by decide +kernel), j_in 28 (by decide +kernel) (by decide +kernel)⟩
theorem cb_X12_asks : j_CB yX12_asks cX12_asks 6 none 1 := ⟨by decide +kernel, j_in 1340 (by decide +kernel) (by decide +kernel), j_in 114 (by decide +kernel) (by decide +kernel), by decide +kernel, by decide +kernel, by decide +kernel⟩
theorem cvRX12_146 : j_CV RX12 146 yX12_asks := ⟨Or.inl (j_in 1337 (by decide +kernel) (by decide +kernel)), j_in 1339 (by decide +kernel) (by decide +kernel), j_in 34 (by decide +kernel) (by decide +kernel)⟩
theorem cb_X12_does : j_CB yX12_does cX12_does 6 none 4 := ⟨by decide +kernel, j_in 1320 (by decide +kernel) (by decide +kernel), j_in 114 (by decide +kernel) (by decide +kernel), by decide +kernel, by decide +kernel, by decide +kernel⟩
theorem cvRX12_137 : j_CV RX12 137 yX12_does := ⟨Or.inl (j_in 1317 (by decide +kernel) (by decide +kernel)), j_in 1319 (by decide +kernel) (by decide +kernel), j_in 29 (by decide +kernel) (by decide +kernel)⟩
theorem cb_X12_isIn : j_CB yX12_isIn cX12_isIn 3 (some .boolean) 3 := ⟨by decide +kernel, j_in 1285 (by decide +kernel) (by decide +kernel), j_in 114 (by decide +kernel) (by decide +kernel), by decide +kernel, by decide +kernel, by decide +kernel⟩
theorem cvRX12_65 : j_CS RX12 65 yX12_isIn := ⟨Or.inl (j_in 1283 (by decide +kernel) (by decide +kernel)), j_in 1284 (by decide +kernel) (by decide +kernel)⟩
theorem cb_X12_isCpu : j_CB yX12_isCpu cX12_isCpu 2 (some .boolean) 1 := ⟨by decide +kernel, j_in 1301 (by decide +kernel) (by decide +kernel), j_in 114 (by decide +kernel) (by decide +kernel), by decide +kernel, by decide +kernel, by decide +kernel⟩
theorem cvRX12_69 : j_CV RX12 69 yX12_isCpu := ⟨Or.inl (j_in 1298 (by decide +kernel) (by decide +kernel)), j_in 1300 (by decide +kernel) (by decide +kernel), j_in 25 (by decide +kernel) (by decide +kernel)⟩
theorem cb_X12_isLine : j_CB yX12_isLine cX12_isLine 1 (some .boolean) 1 := ⟨by decide +kernel, j_in 1304 (by decide +kernel) (by decide +kernel), j_in 114 (by decide +kernel) (by decide +kernel), by decide +kernel, by decide +kernel, by decide +kernel⟩
theorem cvRX12_140 : j_CS RX12 140 yX12_isLine := ⟨Or.inl (j_in 1302 (by decide +kernel) (by decide +kernel)), j_in 1303 (by decide +kernel) (by decide +kernel)⟩
theorem cb_X12_can : j_CB yX12_can cX12_can 4 (some .boolean) 3 := ⟨by decide +kernel, j_in 1297 (by decide +kernel) (by decide +kernel), j_in 114 (by decide +kernel) (by decide +kernel), by decide +kernel, by decide +kernel, by decide +kernel⟩
theorem cvRX12_149 : j_CV RX12 149 yX12_can := ⟨Or.inl (j_in 1294 (by decide +kernel) (by decide +kernel)), j_in 1296 (by decide +kernel) (by decide +kernel), j_in 24 (by decide +kernel) (by decide +kernel)⟩
theorem cb_X12_begins : j_CB yX12_begins cX12_begins 5 (some .boolean) 4 := ⟨by decide +kernel, j_in 1308 (by decide +kernel) (by decide +kernel), j_in 114 (by decide +kernel) (by decide +kernel), by decide +kernel, by decide +kernel, by decide +kernel⟩
theorem cvRX12_152 : j_CV RX12 152 yX12_begins := ⟨Or.inl (j_in 1305 (by decide +kernel) (by decide +kernel)), j_in 1307 (by decide +kernel) (by decide +kernel), j_in 26 (by decide +kernel) (by decide +kernel)⟩
theorem cb_X12_brings : j_CB yX12_brings cX12_brings 6 none 4 := ⟨by decide +kernel, j_in 1388 (by decide +kernel) (by decide +kernel), j_in 114 (by decide +kernel) (by decide +kernel), by decide +kernel, by decide +kernel, by decide +kernel⟩
theorem cvRX12_104 : j_CV RX12 104 yX12_brings := ⟨Or.inl (j_in 1385 (by decide +kernel) (by decide +kernel)), j_in 1387 (by decide +kernel) (by decide +kernel), j_in 43 (by decide +kernel) (by decide +kernel)⟩
theorem cb_X12_gives : j_CB yX12_gives cX12_gives 8 none 6 := ⟨by decide +kernel, j_in 1384 (by decide +kernel) (by decide +kernel), j_in 114 (by decide +kernel) (by decide +kernel), by decide +kernel, by decide +kernel, by decide +kernel⟩
theorem cvRX12_108 : j_CV RX12 108 yX12_gives := ⟨Or.inl (j_in 1381 (by decide +kernel) (by decide +kernel)), j_in 1383 (by decide +kernel) (by decide +kernel), j_in 42 (by decide +kernel) (by decide +kernel)⟩
theorem cb_X12_isNode : j_CB yX12_isNode cX12_isNode 2 (some .boolean) 1 := ⟨by decide +kernel, j_in 1424 (by decide +kernel) (by decide +kernel), j_in 114 (by decide +kernel) (by decide +kernel), by decide +kernel, by decide +kernel, by decide +kernel⟩
theorem cvRX12_119 : j_CV RX12 119 yX12_isNode := ⟨Or.inl (j_in 1421 (by decide +kernel) (by decide +kernel)), j_in 1423 (by decide +kernel) (by decide +kernel), j_in 51 (by decide +kernel) (by decide +kernel)⟩
theorem cb_X12_tellsAll : j_CB yX12_tellsAll cX12_tellsAll 7 none 4 := ⟨by decide +kernel, j_in 1420 (by decide +kernel) (by decide +kernel), j_in 114 (by decide +kernel) (by decide +kernel), by decide +kernel, by decide +kernel, by decide +kernel⟩
theorem cvRX12_125 : j_CV RX12 125 yX12_tellsAll := ⟨Or.inl (j_in 1417 (by decide +kernel) (by decide +kernel)), j_in 1419 (by decide +kernel) (by decide +kernel), j_in 50 (by decide +kernel) (by decide +kernel)⟩
theorem cb_X12_givesAll : j_CB yX12_givesAll cX12_givesAll 5 none 3 := ⟨by decide +kernel, j_in 1380 (by decide +kernel) (by decide +kernel), j_in 114 (by decide +kernel) (by decide +kernel), by decide +kernel, by decide +kernel, by decide +kernel⟩
theorem cvRX12_115 : j_CV RX12 115 yX12_givesAll := ⟨Or.inl (j_in 1377 (by decide +kernel) (by decide +kernel)), j_in 1379 (by decide +kernel) (by decide +kernel), j_in 41 (by decide +kernel) (by decide +kernel)⟩
theorem cb_X12_turn : j_CB yX12_turn cX12_turn 4 (some .int) 2 := ⟨by decide +kernel, j_in 1404 (by decide +kernel) (by decide +kernel), j_in 114 (by decide +kernel) (by decide +kernel), by decide +kernel, by decide +kernel, by decide +kernel⟩
theorem cvRX12_112 : j_CV RX12 112 yX12_turn := ⟨Or.inl (j_in 1401 (by decide +kernel) (by decide +kernel)), j_in 1403 (by decide +kernel) (by decide +kernel), j_in 46 (by decide +kernel) (by decide +kernel)⟩
theorem cb_X12_settles : j_CB yX12_settles cX12_settles 6 none 2 := ⟨by decide +kernel, j_in 1428 (by decide +kernel) (by decide +kernel), j_in 114 (by decide +kernel) (by decide +kernel), by decide +kernel, by decide +kernel, by decide +kernel⟩
theorem cvRX12_128 : j_CV RX12 128 yX12_settles := ⟨Or.inl (j_in 1425 (by decide +kernel) (by decide +kernel)), j_in 1427 (by decide +kernel) (by decide +kernel), j_in 52 (by decide +kernel) (by decide +kernel)⟩
theorem cb_X12_evicts : j_CB yX12_evicts cX12_evicts 3 none 2 := ⟨by decide +kernel, j_in 1376 (by decide +kernel) (by decide +kernel), j_in 114 (by decide +kernel) (by decide +kernel), by decide +kernel, by decide +kernel, by decide +kernel⟩
theorem cvRX12_156 : j_CV RX12 156 yX12_evicts := ⟨Or.inl (j_in 1373 (by decide +kernel) (by decide +kernel)), j_in 1375 (by decide +kernel) (by decide +kernel), j_in 40 (by decide +kernel) (by decide +kernel)⟩
theorem cb_X12_isAtHome : j_CB yX12_isAtHome cX12_isAtHome 2 (some .boolean) 0 := ⟨by decide +kernel, j_in 1289 (by decide +kernel) (by decide +kernel), j_in 114 (by decide +kernel) (by decide +kernel), by decide +kernel, by decide +kernel, by decide +kernel⟩
theorem cvRX12_75 : j_CV RX12 75 yX12_isAtHome := ⟨Or.inl (j_in 1286 (by decide +kernel) (by decide +kernel)), j_in 1288 (by decide +kernel) (by decide +kernel), j_in 23 (by decide +kernel) (by decide +kernel)⟩
theorem dX12_of_0 : decode cX12_of 0 = .ok (.aload_n 0, 1) := by decide +kernel
theorem dX12_of_1 : decode cX12_of 1 = .ok (.getfield 9, 3) := by decide +kernel
theorem dX12_of_4 : decode cX12_of 4 = .ok (.sipush 586, 3) := by decide +kernel
theorem dX12_of_7 : decode cX12_of 7 = .ok (.bipush 9, 2) := by decide +kernel
theorem dX12_of_9 : decode cX12_of 9 = .ok (.iload_n 1, 1) := by decide +kernel
theorem dX12_of_10 : decode cX12_of 10 = .ok (.imul, 1) := by decide +kernel
theorem dX12_of_11 : decode cX12_of 11 = .ok (.iadd, 1) := by decide +kernel
theorem dX12_of_12 : decode cX12_of 12 = .ok (.iload_n 2, 1) := by decide +kernel
theorem dX12_of_13 : decode cX12_of 13 = .ok (.iadd, 1) := by decide +kernel
theorem dX12_of_14 : decode cX12_of 14 = .ok (.iaload, 1) := by decide +kernel
theorem dX12_of_15 : decode cX12_of 15 = .ok (.ireturn, 1) := by decide +kernel
def xX12_of  (l1 : Int32) (l2 : Int32) (M : j_M) : Option (Int32 × j_M) := gd (((nI 586) + ((nI 9) * l1)) + l2) 7460 (oli (M 201 (ix (((nI 586) + ((nI 9) * l1)) + l2))) fun v1 => some (v1, M))
set_option maxRecDepth 20000 in
set_option maxHeartbeats 2000000 in
theorem tX12_of  (l1 : Int32) (l2 : Int32) (M : j_M) : J (ρ := Int32 × j_M) yX12_of cX12_of 3 (some .int) 0 0 j_ei 0 [(0, .inr (17, 0, 200)), (1, .inl (l1)), (2, .inl (l2))] [] M (xX12_of  l1 l2 M) := by
  unfold xX12_of
  refine K_aload_n (q := 1) 0 dX12_of_0 rfl rfl rfl ?_
  refine K_getR (q := 4) (ci := 7) (a2 := 201) 0 dX12_of_1 fRX12_9 rfl rfl (by decide) rfl rfl ?_
  refine K_sipush (q := 7) (v := nI 586) dX12_of_4 rfl rfl ?_
  refine K_bipush (q := 9) (v := nI 9) dX12_of_7 rfl rfl ?_
  refine K_iload_n (q := 10) 1 dX12_of_9 rfl rfl rfl ?_
  refine K_imul (q := 11) dX12_of_10 rfl ?_
  refine K_iadd (q := 12) dX12_of_11 rfl ?_
  refine K_iload_n (q := 13) 2 dX12_of_12 rfl rfl rfl ?_
  refine K_iadd (q := 14) dX12_of_13 rfl ?_
  refine K_iald (q := 15) dX12_of_14 rfl (fun v1 => ?_)
  exact J_iret dX12_of_15
theorem dX12_asking_0 : decode cX12_asking 0 = .ok (.iconst 0, 1) := by decide +kernel
theorem dX12_asking_1 : decode cX12_asking 1 = .ok (.istore_n 1, 1) := by decide +kernel
theorem dX12_asking_2 : decode cX12_asking 2 = .ok (.iconst 0, 1) := by decide +kernel
theorem dX12_asking_3 : decode cX12_asking 3 = .ok (.istore_n 2, 1) := by decide +kernel
theorem dX12_asking_4 : decode cX12_asking 4 = .ok (.iload_n 2, 1) := by decide +kernel
theorem dX12_asking_5 : decode cX12_asking 5 = .ok (.aload_n 0, 1) := by decide +kernel
theorem dX12_asking_6 : decode cX12_asking 6 = .ok (.getfield 9, 3) := by decide +kernel
theorem dX12_asking_9 : decode cX12_asking 9 = .ok (.bipush 7, 2) := by decide +kernel
theorem dX12_asking_11 : decode cX12_asking 11 = .ok (.iaload, 1) := by decide +kernel
theorem dX12_asking_12 : decode cX12_asking 12 = .ok (.if_icmp .ge 27, 3) := by decide +kernel
theorem dX12_asking_15 : decode cX12_asking 15 = .ok (.iload_n 1, 1) := by decide +kernel
theorem dX12_asking_16 : decode cX12_asking 16 = .ok (.aload_n 0, 1) := by decide +kernel
theorem dX12_asking_17 : decode cX12_asking 17 = .ok (.iload_n 2, 1) := by decide +kernel
theorem dX12_asking_18 : decode cX12_asking 18 = .ok (.iconst 2, 1) := by decide +kernel
theorem dX12_asking_19 : decode cX12_asking 19 = .ok (.invokevirtual 79, 3) := by decide +kernel
theorem dX12_asking_22 : decode cX12_asking 22 = .ok (.iconst 2, 1) := by decide +kernel
theorem dX12_asking_23 : decode cX12_asking 23 = .ok (.if_icmp .gt 7, 3) := by decide +kernel
theorem dX12_asking_26 : decode cX12_asking 26 = .ok (.iconst 1, 1) := by decide +kernel
theorem dX12_asking_27 : decode cX12_asking 27 = .ok (.goto 4, 3) := by decide +kernel
theorem dX12_asking_30 : decode cX12_asking 30 = .ok (.iconst 0, 1) := by decide +kernel
theorem dX12_asking_31 : decode cX12_asking 31 = .ok (.iadd, 1) := by decide +kernel
theorem dX12_asking_32 : decode cX12_asking 32 = .ok (.istore_n 1, 1) := by decide +kernel
theorem dX12_asking_33 : decode cX12_asking 33 = .ok (.iinc 2 1, 3) := by decide +kernel
theorem dX12_asking_36 : decode cX12_asking 36 = .ok (.goto (-32), 3) := by decide +kernel
theorem dX12_asking_39 : decode cX12_asking 39 = .ok (.iload_n 1, 1) := by decide +kernel
theorem dX12_asking_40 : decode cX12_asking 40 = .ok (.ireturn, 1) := by decide +kernel
def xX12_asking_31 (k4 : Int32 → Int32 → j_M → Option (Int32 × j_M))  (l2 : Int32) (s1 : Int32) (s0 : Int32) (M : j_M) : Option (Int32 × j_M) := k4 (s1 + s0) (l2 + (nI 1)) M
set_option maxRecDepth 20000 in
set_option maxHeartbeats 2000000 in
theorem tX12_asking_31 (k4 : Int32 → Int32 → j_M → Option (Int32 × j_M))  (hk4 : ∀ (l1 : Int32) (l2 : Int32) (M : j_M), J (ρ := Int32 × j_M) yX12_asking cX12_asking 3 (some .int) 1 22 j_ei 4 [(0, .inr (17, 0, 200)), (1, .inl (l1)), (2, .inl (l2))] [] M (k4 l1 l2 M)) (l2 : Int32) (s1 : Int32) (s0 : Int32) (M : j_M) : J (ρ := Int32 × j_M) yX12_asking cX12_asking 3 (some .int) 1 22 j_ei 31 [(0, .inr (17, 0, 200)), (2, .inl (l2))] [.inl (s0), .inl (s1)] M (xX12_asking_31 k4 l2 s1 s0 M) := by
  unfold xX12_asking_31
  refine K_iadd (q := 32) dX12_asking_31 rfl ?_
  refine K_istore_n (q := 33) (ll' := [(1, .inl (s1 + s0)), (0, .inr (17, 0, 200)), (2, .inl (l2))]) dX12_asking_32 rfl (by decide) rfl rfl ?_
  refine K_iinc (q := 36) (v := l2 + (nI 1)) (ll' := [(2, .inl (l2 + (nI 1))), (1, .inl (s1 + s0)), (0, .inr (17, 0, 200))]) 2 dX12_asking_33 rfl rfl (by decide) rfl rfl ?_
  refine J_goto (tgt := 4) dX12_asking_36 rfl ?_
  exact J_sub [2, 1, 0] (hk4 (s1 + s0) (l2 + (nI 1)) M) rfl
def xX12_asking_4   : Nat → Int32 → Int32 → j_M → Option (Int32 × j_M)
  | 0, _, _, _ => none
  | n + 1, l1, l2, M => gd (nI 7) 7460 (oli (M 201 (ix (nI 7))) fun v1 => (if v1 ≤ l2 then some (l1, M) else obi (xX12_of l2 (nI 2) M) fun v3 M2 => (if (nI 2) < v3 then xX12_asking_31 (xX12_asking_4  n) l2 l1 (nI 0) M2 else xX12_asking_31 (xX12_asking_4  n) l2 l1 (nI 1) M2)))
set_option maxRecDepth 20000 in
set_option maxHeartbeats 2000000 in
theorem tX12_asking_4    : ∀ (n : Nat) (l1 : Int32) (l2 : Int32) (M : j_M), J (ρ := Int32 × j_M) yX12_asking cX12_asking 3 (some .int) 1 22 j_ei 4 [(0, .inr (17, 0, 200)), (1, .inl (l1)), (2, .inl (l2))] [] M (xX12_asking_4  n l1 l2 M) := by
  intro n
  induction n with
  | zero => intros; exact J_none
  | succ n ih =>
    intro l1 l2 M
    rw [xX12_asking_4.eq_2]
    refine K_iload_n (q := 5) 2 dX12_asking_4 rfl rfl rfl ?_
    refine K_aload_n (q := 6) 0 dX12_asking_5 rfl rfl rfl ?_
    refine K_getR (q := 9) (ci := 7) (a2 := 201) 0 dX12_asking_6 fRX12_9 rfl rfl (by decide) rfl rfl ?_
    refine K_bipush (q := 11) (v := nI 7) dX12_asking_9 rfl rfl ?_
    refine K_iald (q := 12) dX12_asking_11 rfl (fun v1 => ?_)
    refine K_icmp_ge (q := 15) (tgt := 39) dX12_asking_12 rfl ?_ rfl ?_
    · refine K_iload_n (q := 40) 1 dX12_asking_39 rfl rfl rfl ?_
      exact J_iret dX12_asking_40
    · refine K_iload_n (q := 16) 1 dX12_asking_15 rfl rfl rfl ?_
      refine K_aload_n (q := 17) 0 dX12_asking_16 rfl rfl rfl ?_
      refine K_iload_n (q := 18) 2 dX12_asking_17 rfl rfl rfl ?_
      refine K_iconst (q := 19) (v := nI 2) dX12_asking_18 rfl rfl ?_
      refine K_cvi (q := 22) [.inl (l2), .inl ((nI 2))] dX12_asking_19 cb_X12_of cvRX12_79 rc_7 (show (17 : Nat) ≠ 0 by decide) rfl (Nat.le_of_ble_eq_true rfl) ⟨by decide, by decide⟩ (Nat.le_of_ble_eq_true rfl) rfl (tX12_of l2 (nI 2) M) rfl (fun v3 M2 => ?_)
      refine K_iconst (q := 23) (v := nI 2) dX12_asking_22 rfl rfl ?_
      refine K_icmp_gt (q := 26) (tgt := 30) dX12_asking_23 rfl ?_ rfl ?_
      · refine K_iconst (q := 31) (v := nI 0) dX12_asking_30 rfl rfl ?_
        exact J_sub [0, 2] (tX12_asking_31 (xX12_asking_4  n) ih l2 l1 (nI 0) M2) rfl
      · refine K_iconst (q := 27) (v := nI 1) dX12_asking_26 rfl rfl ?_
        refine J_goto (tgt := 31) dX12_asking_27 rfl ?_
        exact J_sub [0, 2] (tX12_asking_31 (xX12_asking_4  n) ih l2 l1 (nI 1) M2) rfl
def xX12_asking   (M : j_M) : Option (Int32 × j_M) := xX12_asking_4 fu (nI 0) (nI 0) M
set_option maxRecDepth 20000 in
set_option maxHeartbeats 2000000 in
theorem tX12_asking   (M : j_M) : J (ρ := Int32 × j_M) yX12_asking cX12_asking 3 (some .int) 1 22 j_ei 0 [(0, .inr (17, 0, 200))] [] M (xX12_asking   M) := by
  unfold xX12_asking
  refine K_iconst (q := 1) (v := nI 0) dX12_asking_0 rfl rfl ?_
  refine K_istore_n (q := 2) (ll' := [(1, .inl ((nI 0))), (0, .inr (17, 0, 200))]) dX12_asking_1 rfl (by decide) rfl rfl ?_
  refine K_iconst (q := 3) (v := nI 0) dX12_asking_2 rfl rfl ?_
  refine K_istore_n (q := 4) (ll' := [(2, .inl ((nI 0))), (1, .inl ((nI 0))), (0, .inr (17, 0, 200))]) dX12_asking_3 rfl (by decide) rfl rfl ?_
  exact J_sub [2, 1, 0] (tX12_asking_4 fu (nI 0) (nI 0) M) rfl
theorem dX12_sends_0 : decode cX12_sends 0 = .ok (.sipush 586, 3) := by decide +kernel
theorem dX12_sends_3 : decode cX12_sends 3 = .ok (.bipush 9, 2) := by decide +kernel
theorem dX12_sends_5 : decode cX12_sends 5 = .ok (.aload_n 0, 1) := by decide +kernel
theorem dX12_sends_6 : decode cX12_sends 6 = .ok (.getfield 9, 3) := by decide +kernel
theorem dX12_sends_9 : decode cX12_sends 9 = .ok (.bipush 7, 2) := by decide +kernel
theorem dX12_sends_11 : decode cX12_sends 11 = .ok (.iaload, 1) := by decide +kernel
theorem dX12_sends_12 : decode cX12_sends 12 = .ok (.imul, 1) := by decide +kernel
theorem dX12_sends_13 : decode cX12_sends 13 = .ok (.iadd, 1) := by decide +kernel
theorem dX12_sends_14 : decode cX12_sends 14 = .ok (.istore 5, 2) := by decide +kernel
theorem dX12_sends_16 : decode cX12_sends 16 = .ok (.iconst 0, 1) := by decide +kernel
theorem dX12_sends_17 : decode cX12_sends 17 = .ok (.istore 6, 2) := by decide +kernel
theorem dX12_sends_19 : decode cX12_sends 19 = .ok (.iload 6, 2) := by decide +kernel
theorem dX12_sends_21 : decode cX12_sends 21 = .ok (.bipush 9, 2) := by decide +kernel
theorem dX12_sends_23 : decode cX12_sends 23 = .ok (.if_icmp .ge 20, 3) := by decide +kernel
theorem dX12_sends_26 : decode cX12_sends 26 = .ok (.aload_n 0, 1) := by decide +kernel
theorem dX12_sends_27 : decode cX12_sends 27 = .ok (.getfield 9, 3) := by decide +kernel
theorem dX12_sends_30 : decode cX12_sends 30 = .ok (.iload 5, 2) := by decide +kernel
theorem dX12_sends_32 : decode cX12_sends 32 = .ok (.iload 6, 2) := by decide +kernel
theorem dX12_sends_34 : decode cX12_sends 34 = .ok (.iadd, 1) := by decide +kernel
theorem dX12_sends_35 : decode cX12_sends 35 = .ok (.iconst 0, 1) := by decide +kernel
theorem dX12_sends_36 : decode cX12_sends 36 = .ok (.iastore, 1) := by decide +kernel
theorem dX12_sends_37 : decode cX12_sends 37 = .ok (.iinc 6 1, 3) := by decide +kernel
theorem dX12_sends_40 : decode cX12_sends 40 = .ok (.goto (-21), 3) := by decide +kernel
theorem dX12_sends_43 : decode cX12_sends 43 = .ok (.aload_n 0, 1) := by decide +kernel
theorem dX12_sends_44 : decode cX12_sends 44 = .ok (.getfield 9, 3) := by decide +kernel
theorem dX12_sends_47 : decode cX12_sends 47 = .ok (.iload 5, 2) := by decide +kernel
theorem dX12_sends_49 : decode cX12_sends 49 = .ok (.iconst 0, 1) := by decide +kernel
theorem dX12_sends_50 : decode cX12_sends 50 = .ok (.iadd, 1) := by decide +kernel
theorem dX12_sends_51 : decode cX12_sends 51 = .ok (.iload_n 1, 1) := by decide +kernel
theorem dX12_sends_52 : decode cX12_sends 52 = .ok (.iastore, 1) := by decide +kernel
theorem dX12_sends_53 : decode cX12_sends 53 = .ok (.aload_n 0, 1) := by decide +kernel
theorem dX12_sends_54 : decode cX12_sends 54 = .ok (.getfield 9, 3) := by decide +kernel
theorem dX12_sends_57 : decode cX12_sends 57 = .ok (.iload 5, 2) := by decide +kernel
theorem dX12_sends_59 : decode cX12_sends 59 = .ok (.iconst 1, 1) := by decide +kernel
theorem dX12_sends_60 : decode cX12_sends 60 = .ok (.iadd, 1) := by decide +kernel
theorem dX12_sends_61 : decode cX12_sends 61 = .ok (.iload_n 2, 1) := by decide +kernel
theorem dX12_sends_62 : decode cX12_sends 62 = .ok (.iastore, 1) := by decide +kernel
theorem dX12_sends_63 : decode cX12_sends 63 = .ok (.aload_n 0, 1) := by decide +kernel
theorem dX12_sends_64 : decode cX12_sends 64 = .ok (.getfield 9, 3) := by decide +kernel
theorem dX12_sends_67 : decode cX12_sends 67 = .ok (.iload 5, 2) := by decide +kernel
theorem dX12_sends_69 : decode cX12_sends 69 = .ok (.iconst 2, 1) := by decide +kernel
theorem dX12_sends_70 : decode cX12_sends 70 = .ok (.iadd, 1) := by decide +kernel
theorem dX12_sends_71 : decode cX12_sends 71 = .ok (.iload_n 3, 1) := by decide +kernel
theorem dX12_sends_72 : decode cX12_sends 72 = .ok (.iastore, 1) := by decide +kernel
theorem dX12_sends_73 : decode cX12_sends 73 = .ok (.aload_n 0, 1) := by decide +kernel
theorem dX12_sends_74 : decode cX12_sends 74 = .ok (.getfield 9, 3) := by decide +kernel
theorem dX12_sends_77 : decode cX12_sends 77 = .ok (.iload 5, 2) := by decide +kernel
theorem dX12_sends_79 : decode cX12_sends 79 = .ok (.iconst 3, 1) := by decide +kernel
theorem dX12_sends_80 : decode cX12_sends 80 = .ok (.iadd, 1) := by decide +kernel
theorem dX12_sends_81 : decode cX12_sends 81 = .ok (.iload 4, 2) := by decide +kernel
theorem dX12_sends_83 : decode cX12_sends 83 = .ok (.iastore, 1) := by decide +kernel
theorem dX12_sends_84 : decode cX12_sends 84 = .ok (.aload_n 0, 1) := by decide +kernel
theorem dX12_sends_85 : decode cX12_sends 85 = .ok (.getfield 9, 3) := by decide +kernel
theorem dX12_sends_88 : decode cX12_sends 88 = .ok (.iload 5, 2) := by decide +kernel
theorem dX12_sends_90 : decode cX12_sends 90 = .ok (.bipush 6, 2) := by decide +kernel
theorem dX12_sends_92 : decode cX12_sends 92 = .ok (.iadd, 1) := by decide +kernel
theorem dX12_sends_93 : decode cX12_sends 93 = .ok (.iconst (-1), 1) := by decide +kernel
theorem dX12_sends_94 : decode cX12_sends 94 = .ok (.iastore, 1) := by decide +kernel
theorem dX12_sends_95 : decode cX12_sends 95 = .ok (.aload_n 0, 1) := by decide +kernel
theorem dX12_sends_96 : decode cX12_sends 96 = .ok (.getfield 9, 3) := by decide +kernel
theorem dX12_sends_99 : decode cX12_sends 99 = .ok (.bipush 7, 2) := by decide +kernel
theorem dX12_sends_101 : decode cX12_sends 101 = .ok (.dup2, 1) := by decide +kernel
theorem dX12_sends_102 : decode cX12_sends 102 = .ok (.iaload, 1) := by decide +kernel
theorem dX12_sends_103 : decode cX12_sends 103 = .ok (.iconst 1, 1) := by decide +kernel
theorem dX12_sends_104 : decode cX12_sends 104 = .ok (.iadd, 1) := by decide +kernel
theorem dX12_sends_105 : decode cX12_sends 105 = .ok (.iastore, 1) := by decide +kernel
theorem dX12_sends_106 : decode cX12_sends 106 = .ok (.aload_n 0, 1) := by decide +kernel
theorem dX12_sends_107 : decode cX12_sends 107 = .ok (.getfield 9, 3) := by decide +kernel
theorem dX12_sends_110 : decode cX12_sends 110 = .ok (.sipush 6814, 3) := by decide +kernel
theorem dX12_sends_113 : decode cX12_sends 113 = .ok (.iconst 3, 1) := by decide +kernel
theorem dX12_sends_114 : decode cX12_sends 114 = .ok (.bipush 7, 2) := by decide +kernel
theorem dX12_sends_116 : decode cX12_sends 116 = .ok (.iload_n 1, 1) := by decide +kernel
theorem dX12_sends_117 : decode cX12_sends 117 = .ok (.imul, 1) := by decide +kernel
theorem dX12_sends_118 : decode cX12_sends 118 = .ok (.iload_n 2, 1) := by decide +kernel
theorem dX12_sends_119 : decode cX12_sends 119 = .ok (.iadd, 1) := by decide +kernel
theorem dX12_sends_120 : decode cX12_sends 120 = .ok (.imul, 1) := by decide +kernel
theorem dX12_sends_121 : decode cX12_sends 121 = .ok (.iadd, 1) := by decide +kernel
theorem dX12_sends_122 : decode cX12_sends 122 = .ok (.dup2, 1) := by decide +kernel
theorem dX12_sends_123 : decode cX12_sends 123 = .ok (.iaload, 1) := by decide +kernel
theorem dX12_sends_124 : decode cX12_sends 124 = .ok (.iconst 1, 1) := by decide +kernel
theorem dX12_sends_125 : decode cX12_sends 125 = .ok (.iadd, 1) := by decide +kernel
theorem dX12_sends_126 : decode cX12_sends 126 = .ok (.iastore, 1) := by decide +kernel
theorem dX12_sends_127 : decode cX12_sends 127 = .ok (.iload 5, 2) := by decide +kernel
theorem dX12_sends_129 : decode cX12_sends 129 = .ok (.ireturn, 1) := by decide +kernel
def xX12_sends_19   : Nat → Int32 → Int32 → Int32 → Int32 → Int32 → Int32 → j_M → Option (Int32 × j_M)
  | 0, _, _, _, _, _, _, _ => none
  | n + 1, l1, l2, l3, l4, l5, l6, M => (if (nI 9) ≤ l6 then gd (l5 + (nI 0)) 7460 (oml (mw M 201 (ix (l5 + (nI 0))) l1) fun M1 => gd (l5 + (nI 1)) 7460 (oml (mw M1 201 (ix (l5 + (nI 1))) l2) fun M2 => gd (l5 + (nI 2)) 7460 (oml (mw M2 201 (ix (l5 + (nI 2))) l3) fun M3 => gd (l5 + (nI 3)) 7460 (oml (mw M3 201 (ix (l5 + (nI 3))) l4) fun M4 => gd (l5 + (nI 6)) 7460 (oml (mw M4 201 (ix (l5 + (nI 6))) (-1 : Int32)) fun M5 => gd (nI 7) 7460 (oli (M5 201 (ix (nI 7))) fun v6 => gd (nI 7) 7460 (oml (mw M5 201 (ix (nI 7)) (v6 + (nI 1))) fun M7 => gd ((nI 6814) + ((nI 3) * (((nI 7) * l1) + l2))) 7460 (oli (M7 201 (ix ((nI 6814) + ((nI 3) * (((nI 7) * l1) + l2))))) fun v8 => gd ((nI 6814) + ((nI 3) * (((nI 7) * l1) + l2))) 7460 (oml (mw M7 201 (ix ((nI 6814) + ((nI 3) * (((nI 7) * l1) + l2)))) (v8 + (nI 1))) fun M9 => some (l5, M9)))))))))) else gd (l5 + l6) 7460 (oml (mw M 201 (ix (l5 + l6)) (nI 0)) fun M10 => xX12_sends_19  n l1 l2 l3 l4 l5 (l6 + (nI 1)) M10))
set_option maxRecDepth 20000 in
set_option maxHeartbeats 2000000 in
theorem tX12_sends_19    : ∀ (n : Nat) (l1 : Int32) (l2 : Int32) (l3 : Int32) (l4 : Int32) (l5 : Int32) (l6 : Int32) (M : j_M), J (ρ := Int32 × j_M) yX12_sends cX12_sends 7 (some .int) 0 0 j_ei 19 [(0, .inr (17, 0, 200)), (1, .inl (l1)), (2, .inl (l2)), (3, .inl (l3)), (4, .inl (l4)), (5, .inl (l5)), (6, .inl (l6))] [] M (xX12_sends_19  n l1 l2 l3 l4 l5 l6 M) := by
  intro n
  induction n with
  | zero => intros; exact J_none
  | succ n ih =>
    intro l1 l2 l3 l4 l5 l6 M
    rw [xX12_sends_19.eq_2]
    refine K_iload (q := 21) 6 dX12_sends_19 rfl rfl ?_
    refine K_bipush (q := 23) (v := nI 9) dX12_sends_21 rfl rfl ?_
    refine K_icmp_ge (q := 26) (tgt := 43) dX12_sends_23 rfl ?_ rfl ?_
    · refine K_aload_n (q := 44) 0 dX12_sends_43 rfl rfl rfl ?_
      refine K_getR (q := 47) (ci := 7) (a2 := 201) 0 dX12_sends_44 fRX12_9 rfl rfl (by decide) rfl rfl ?_
      refine K_iload (q := 49) 5 dX12_sends_47 rfl rfl ?_
      refine K_iconst (q := 50) (v := nI 0) dX12_sends_49 rfl rfl ?_
      refine K_iadd (q := 51) dX12_sends_50 rfl ?_
      refine K_iload_n (q := 52) 1 dX12_sends_51 rfl rfl rfl ?_
      refine K_iast (q := 53) dX12_sends_52 rfl (fun M1 => ?_)
      refine K_aload_n (q := 54) 0 dX12_sends_53 rfl rfl rfl ?_
      refine K_getR (q := 57) (ci := 7) (a2 := 201) 0 dX12_sends_54 fRX12_9 rfl rfl (by decide) rfl rfl ?_
      refine K_iload (q := 59) 5 dX12_sends_57 rfl rfl ?_
      refine K_iconst (q := 60) (v := nI 1) dX12_sends_59 rfl rfl ?_
      refine K_iadd (q := 61) dX12_sends_60 rfl ?_
      refine K_iload_n (q := 62) 2 dX12_sends_61 rfl rfl rfl ?_
      refine K_iast (q := 63) dX12_sends_62 rfl (fun M2 => ?_)
      refine K_aload_n (q := 64) 0 dX12_sends_63 rfl rfl rfl ?_
      refine K_getR (q := 67) (ci := 7) (a2 := 201) 0 dX12_sends_64 fRX12_9 rfl rfl (by decide) rfl rfl ?_
      refine K_iload (q := 69) 5 dX12_sends_67 rfl rfl ?_
      refine K_iconst (q := 70) (v := nI 2) dX12_sends_69 rfl rfl ?_
      refine K_iadd (q := 71) dX12_sends_70 rfl ?_
      refine K_iload_n (q := 72) 3 dX12_sends_71 rfl rfl rfl ?_
      refine K_iast (q := 73) dX12_sends_72 rfl (fun M3 => ?_)
      refine K_aload_n (q := 74) 0 dX12_sends_73 rfl rfl rfl ?_
      refine K_getR (q := 77) (ci := 7) (a2 := 201) 0 dX12_sends_74 fRX12_9 rfl rfl (by decide) rfl rfl ?_
      refine K_iload (q := 79) 5 dX12_sends_77 rfl rfl ?_
      refine K_iconst (q := 80) (v := nI 3) dX12_sends_79 rfl rfl ?_
      refine K_iadd (q := 81) dX12_sends_80 rfl ?_
      refine K_iload (q := 83) 4 dX12_sends_81 rfl rfl ?_
      refine K_iast (q := 84) dX12_sends_83 rfl (fun M4 => ?_)
      refine K_aload_n (q := 85) 0 dX12_sends_84 rfl rfl rfl ?_
      refine K_getR (q := 88) (ci := 7) (a2 := 201) 0 dX12_sends_85 fRX12_9 rfl rfl (by decide) rfl rfl ?_
      refine K_iload (q := 90) 5 dX12_sends_88 rfl rfl ?_
      refine K_bipush (q := 92) (v := nI 6) dX12_sends_90 rfl rfl ?_
      refine K_iadd (q := 93) dX12_sends_92 rfl ?_
      refine K_iconst (q := 94) (v := -1) dX12_sends_93 rfl rfl ?_
      refine K_iast (q := 95) dX12_sends_94 rfl (fun M5 => ?_)
      refine K_aload_n (q := 96) 0 dX12_sends_95 rfl rfl rfl ?_
      refine K_getR (q := 99) (ci := 7) (a2 := 201) 0 dX12_sends_96 fRX12_9 rfl rfl (by decide) rfl rfl ?_
      refine K_bipush (q := 101) (v := nI 7) dX12_sends_99 rfl rfl ?_
      refine K_dup2 (q := 102) dX12_sends_101 rfl ?_
      refine K_iald (q := 103) dX12_sends_102 rfl (fun v6 => ?_)
      refine K_iconst (q := 104) (v := nI 1) dX12_sends_103 rfl rfl ?_
      refine K_iadd (q := 105) dX12_sends_104 rfl ?_
      refine K_iast (q := 106) dX12_sends_105 rfl (fun M7 => ?_)
      refine K_aload_n (q := 107) 0 dX12_sends_106 rfl rfl rfl ?_
      refine K_getR (q := 110) (ci := 7) (a2 := 201) 0 dX12_sends_107 fRX12_9 rfl rfl (by decide) rfl rfl ?_
      refine K_sipush (q := 113) (v := nI 6814) dX12_sends_110 rfl rfl ?_
      refine K_iconst (q := 114) (v := nI 3) dX12_sends_113 rfl rfl ?_
      refine K_bipush (q := 116) (v := nI 7) dX12_sends_114 rfl rfl ?_
      refine K_iload_n (q := 117) 1 dX12_sends_116 rfl rfl rfl ?_
      refine K_imul (q := 118) dX12_sends_117 rfl ?_
      refine K_iload_n (q := 119) 2 dX12_sends_118 rfl rfl rfl ?_
      refine K_iadd (q := 120) dX12_sends_119 rfl ?_
      refine K_imul (q := 121) dX12_sends_120 rfl ?_
      refine K_iadd (q := 122) dX12_sends_121 rfl ?_
      refine K_dup2 (q := 123) dX12_sends_122 rfl ?_
      refine K_iald (q := 124) dX12_sends_123 rfl (fun v8 => ?_)
      refine K_iconst (q := 125) (v := nI 1) dX12_sends_124 rfl rfl ?_
      refine K_iadd (q := 126) dX12_sends_125 rfl ?_
      refine K_iast (q := 127) dX12_sends_126 rfl (fun M9 => ?_)
      refine K_iload (q := 129) 5 dX12_sends_127 rfl rfl ?_
      exact J_iret dX12_sends_129
    · refine K_aload_n (q := 27) 0 dX12_sends_26 rfl rfl rfl ?_
      refine K_getR (q := 30) (ci := 7) (a2 := 201) 0 dX12_sends_27 fRX12_9 rfl rfl (by decide) rfl rfl ?_
      refine K_iload (q := 32) 5 dX12_sends_30 rfl rfl ?_
      refine K_iload (q := 34) 6 dX12_sends_32 rfl rfl ?_
      refine K_iadd (q := 35) dX12_sends_34 rfl ?_
      refine K_iconst (q := 36) (v := nI 0) dX12_sends_35 rfl rfl ?_
      refine K_iast (q := 37) dX12_sends_36 rfl (fun M10 => ?_)
      refine K_iinc (q := 40) (v := l6 + (nI 1)) (ll' := [(6, .inl (l6 + (nI 1))), (0, .inr (17, 0, 200)), (1, .inl (l1)), (2, .inl (l2)), (3, .inl (l3)), (4, .inl (l4)), (5, .inl (l5))]) 6 dX12_sends_37 rfl rfl (by decide) rfl rfl ?_
      refine J_goto (tgt := 19) dX12_sends_40 rfl ?_
      exact J_sub [1, 2, 3, 4, 5, 6, 0] (ih l1 l2 l3 l4 l5 (l6 + (nI 1)) M10) rfl
def xX12_sends  (l1 : Int32) (l2 : Int32) (l3 : Int32) (l4 : Int32) (M : j_M) : Option (Int32 × j_M) := gd (nI 7) 7460 (oli (M 201 (ix (nI 7))) fun v1 => xX12_sends_19 fu l1 l2 l3 l4 ((nI 586) + ((nI 9) * v1)) (nI 0) M)
set_option maxRecDepth 20000 in
set_option maxHeartbeats 2000000 in
theorem tX12_sends  (l1 : Int32) (l2 : Int32) (l3 : Int32) (l4 : Int32) (M : j_M) : J (ρ := Int32 × j_M) yX12_sends cX12_sends 7 (some .int) 0 0 j_ei 0 [(0, .inr (17, 0, 200)), (1, .inl (l1)), (2, .inl (l2)), (3, .inl (l3)), (4, .inl (l4))] [] M (xX12_sends  l1 l2 l3 l4 M) := by
  unfold xX12_sends
  refine K_sipush (q := 3) (v := nI 586) dX12_sends_0 rfl rfl ?_
  refine K_bipush (q := 5) (v := nI 9) dX12_sends_3 rfl rfl ?_
  refine K_aload_n (q := 6) 0 dX12_sends_5 rfl rfl rfl ?_
  refine K_getR (q := 9) (ci := 7) (a2 := 201) 0 dX12_sends_6 fRX12_9 rfl rfl (by decide) rfl rfl ?_
  refine K_bipush (q := 11) (v := nI 7) dX12_sends_9 rfl rfl ?_
  refine K_iald (q := 12) dX12_sends_11 rfl (fun v1 => ?_)
  refine K_imul (q := 13) dX12_sends_12 rfl ?_
  refine K_iadd (q := 14) dX12_sends_13 rfl ?_
  refine K_istore (q := 16) (ll' := [(5, .inl ((nI 586) + ((nI 9) * v1))), (0, .inr (17, 0, 200)), (1, .inl (l1)), (2, .inl (l2)), (3, .inl (l3)), (4, .inl (l4))]) dX12_sends_14 (by decide) rfl rfl ?_
  refine K_iconst (q := 17) (v := nI 0) dX12_sends_16 rfl rfl ?_
  refine K_istore (q := 19) (ll' := [(6, .inl ((nI 0))), (5, .inl ((nI 586) + ((nI 9) * v1))), (0, .inr (17, 0, 200)), (1, .inl (l1)), (2, .inl (l2)), (3, .inl (l3)), (4, .inl (l4))]) dX12_sends_17 (by decide) rfl rfl ?_
  exact J_sub [2, 3, 4, 5, 6, 1, 0] (tX12_sends_19 fu l1 l2 l3 l4 ((nI 586) + ((nI 9) * v1)) (nI 0) M) rfl
theorem dX12_asksOne_0 : decode cX12_asksOne 0 = .ok (.aload_n 0, 1) := by decide +kernel
theorem dX12_asksOne_1 : decode cX12_asksOne 1 = .ok (.invokevirtual 82, 3) := by decide +kernel
theorem dX12_asksOne_4 : decode cX12_asksOne 4 = .ok (.bipush 60, 2) := by decide +kernel
theorem dX12_asksOne_6 : decode cX12_asksOne 6 = .ok (.if_icmp .ne 17, 3) := by decide +kernel
theorem dX12_asksOne_9 : decode cX12_asksOne 9 = .ok (.aload_n 0, 1) := by decide +kernel
theorem dX12_asksOne_10 : decode cX12_asksOne 10 = .ok (.getfield 9, 3) := by decide +kernel
theorem dX12_asksOne_13 : decode cX12_asksOne 13 = .ok (.bipush 8, 2) := by decide +kernel
theorem dX12_asksOne_15 : decode cX12_asksOne 15 = .ok (.dup2, 1) := by decide +kernel
theorem dX12_asksOne_16 : decode cX12_asksOne 16 = .ok (.iaload, 1) := by decide +kernel
theorem dX12_asksOne_17 : decode cX12_asksOne 17 = .ok (.iconst 1, 1) := by decide +kernel
theorem dX12_asksOne_18 : decode cX12_asksOne 18 = .ok (.iadd, 1) := by decide +kernel
theorem dX12_asksOne_19 : decode cX12_asksOne 19 = .ok (.iastore, 1) := by decide +kernel
theorem dX12_asksOne_20 : decode cX12_asksOne 20 = .ok (.goto 39, 3) := by decide +kernel
theorem dX12_asksOne_23 : decode cX12_asksOne 23 = .ok (.aload_n 0, 1) := by decide +kernel
theorem dX12_asksOne_24 : decode cX12_asksOne 24 = .ok (.iload_n 1, 1) := by decide +kernel
theorem dX12_asksOne_25 : decode cX12_asksOne 25 = .ok (.iload_n 2, 1) := by decide +kernel
theorem dX12_asksOne_26 : decode cX12_asksOne 26 = .ok (.aload_n 0, 1) := by decide +kernel
theorem dX12_asksOne_27 : decode cX12_asksOne 27 = .ok (.getfield 9, 3) := by decide +kernel
theorem dX12_asksOne_30 : decode cX12_asksOne 30 = .ok (.sipush 298, 3) := by decide +kernel
theorem dX12_asksOne_33 : decode cX12_asksOne 33 = .ok (.iload_n 1, 1) := by decide +kernel
theorem dX12_asksOne_34 : decode cX12_asksOne 34 = .ok (.iadd, 1) := by decide +kernel
theorem dX12_asksOne_35 : decode cX12_asksOne 35 = .ok (.iaload, 1) := by decide +kernel
theorem dX12_asksOne_36 : decode cX12_asksOne 36 = .ok (.iconst 1, 1) := by decide +kernel
theorem dX12_asksOne_37 : decode cX12_asksOne 37 = .ok (.if_icmp .ne 7, 3) := by decide +kernel
theorem dX12_asksOne_40 : decode cX12_asksOne 40 = .ok (.iconst 1, 1) := by decide +kernel
theorem dX12_asksOne_41 : decode cX12_asksOne 41 = .ok (.goto 4, 3) := by decide +kernel
theorem dX12_asksOne_44 : decode cX12_asksOne 44 = .ok (.iconst 2, 1) := by decide +kernel
theorem dX12_asksOne_45 : decode cX12_asksOne 45 = .ok (.aload_n 0, 1) := by decide +kernel
theorem dX12_asksOne_46 : decode cX12_asksOne 46 = .ok (.getfield 9, 3) := by decide +kernel
theorem dX12_asksOne_49 : decode cX12_asksOne 49 = .ok (.sipush 292, 3) := by decide +kernel
theorem dX12_asksOne_52 : decode cX12_asksOne 52 = .ok (.iload_n 1, 1) := by decide +kernel
theorem dX12_asksOne_53 : decode cX12_asksOne 53 = .ok (.iadd, 1) := by decide +kernel
theorem dX12_asksOne_54 : decode cX12_asksOne 54 = .ok (.iaload, 1) := by decide +kernel
theorem dX12_asksOne_55 : decode cX12_asksOne 55 = .ok (.invokevirtual 86, 3) := by decide +kernel
theorem dX12_asksOne_58 : decode cX12_asksOne 58 = .ok (.pop, 1) := by decide +kernel
theorem dX12_asksOne_59 : decode cX12_asksOne 59 = .ok (.return_, 1) := by decide +kernel
def xX12_asksOne_45   (l1 : Int32) (s2 : Int32) (s1 : Int32) (s0 : Int32) (M : j_M) : Option (j_M) := gd ((nI 292) + l1) 7460 (oli (M 201 (ix ((nI 292) + l1))) fun v1 => obi (xX12_sends s2 s1 s0 v1 M) fun v3 M2 => some M2)
set_option maxRecDepth 20000 in
set_option maxHeartbeats 2000000 in
theorem tX12_asksOne_45    (l1 : Int32) (s2 : Int32) (s1 : Int32) (s0 : Int32) (M : j_M) : J (ρ := j_M) yX12_asksOne cX12_asksOne 3 none 2 44 j_ev 45 [(0, .inr (17, 0, 200)), (1, .inl (l1))] [.inl (s0), .inl (s1), .inl (s2), .inr (17, 0, 200)] M (xX12_asksOne_45  l1 s2 s1 s0 M) := by
  unfold xX12_asksOne_45
  refine K_aload_n (q := 46) 0 dX12_asksOne_45 rfl rfl rfl ?_
  refine K_getR (q := 49) (ci := 7) (a2 := 201) 0 dX12_asksOne_46 fRX12_9 rfl rfl (by decide) rfl rfl ?_
  refine K_sipush (q := 52) (v := nI 292) dX12_asksOne_49 rfl rfl ?_
  refine K_iload_n (q := 53) 1 dX12_asksOne_52 rfl rfl rfl ?_
  refine K_iadd (q := 54) dX12_asksOne_53 rfl ?_
  refine K_iald (q := 55) dX12_asksOne_54 rfl (fun v1 => ?_)
  refine K_cvi (q := 58) [.inl (s2), .inl (s1), .inl (s0), .inl (v1)] dX12_asksOne_55 cb_X12_sends cvRX12_86 rc_7 (show (17 : Nat) ≠ 0 by decide) rfl (Nat.le_of_ble_eq_true rfl) ⟨by decide, by decide⟩ (Nat.le_of_ble_eq_true rfl) rfl (tX12_sends s2 s1 s0 v1 M) rfl (fun v3 M2 => ?_)
  refine K_pop (q := 59) dX12_asksOne_58 rfl ?_
  exact J_vret dX12_asksOne_59
def xX12_asksOne  (l1 : Int32) (l2 : Int32) (M : j_M) : Option (j_M) := obi (xX12_asking M) fun v2 M1 => (if v2 = (nI 60) then gd (nI 8) 7460 (oli (M1 201 (ix (nI 8))) fun v4 => gd (nI 8) 7460 (oml (mw M1 201 (ix (nI 8)) (v4 + (nI 1))) fun M5 => some M5)) else gd ((nI 298) + l1) 7460 (oli (M1 201 (ix ((nI 298) + l1))) fun v3 => (if v3 = (nI 1) then xX12_asksOne_45  l1 l1 l2 (nI 1) M1 else xX12_asksOne_45  l1 l1 l2 (nI 2) M1)))
set_option maxRecDepth 20000 in
set_option maxHeartbeats 2000000 in
theorem tX12_asksOne  (l1 : Int32) (l2 : Int32) (M : j_M) : J (ρ := j_M) yX12_asksOne cX12_asksOne 3 none 2 44 j_ev 0 [(0, .inr (17, 0, 200)), (1, .inl (l1)), (2, .inl (l2))] [] M (xX12_asksOne  l1 l2 M) := by
  unfold xX12_asksOne
  refine K_aload_n (q := 1) 0 dX12_asksOne_0 rfl rfl rfl ?_
  refine K_cvi (q := 4) [] dX12_asksOne_1 cb_X12_asking cvRX12_82 rc_7 (show (17 : Nat) ≠ 0 by decide) rfl (Nat.le_of_ble_eq_true rfl) ⟨by decide, by decide⟩ (Nat.le_of_ble_eq_true rfl) rfl (tX12_asking M) rfl (fun v2 M1 => ?_)
  refine K_bipush (q := 6) (v := nI 60) dX12_asksOne_4 rfl rfl ?_
  refine K_icmp_ne (q := 9) (tgt := 23) dX12_asksOne_6 rfl ?_ rfl ?_
  · refine K_aload_n (q := 24) 0 dX12_asksOne_23 rfl rfl rfl ?_
    refine K_iload_n (q := 25) 1 dX12_asksOne_24 rfl rfl rfl ?_
    refine K_iload_n (q := 26) 2 dX12_asksOne_25 rfl rfl rfl ?_
    refine K_aload_n (q := 27) 0 dX12_asksOne_26 rfl rfl rfl ?_
    refine K_getR (q := 30) (ci := 7) (a2 := 201) 0 dX12_asksOne_27 fRX12_9 rfl rfl (by decide) rfl rfl ?_
    refine K_sipush (q := 33) (v := nI 298) dX12_asksOne_30 rfl rfl ?_
    refine K_iload_n (q := 34) 1 dX12_asksOne_33 rfl rfl rfl ?_
    refine K_iadd (q := 35) dX12_asksOne_34 rfl ?_
    refine K_iald (q := 36) dX12_asksOne_35 rfl (fun v3 => ?_)
    refine K_iconst (q := 37) (v := nI 1) dX12_asksOne_36 rfl rfl ?_
    refine K_icmp_ne (q := 40) (tgt := 44) dX12_asksOne_37 rfl ?_ rfl ?_
    · refine K_iconst (q := 45) (v := nI 2) dX12_asksOne_44 rfl rfl ?_
      exact J_sub [0, 1] (tX12_asksOne_45  l1 l1 l2 (nI 2) M1) rfl
    · refine K_iconst (q := 41) (v := nI 1) dX12_asksOne_40 rfl rfl ?_
      refine J_goto (tgt := 45) dX12_asksOne_41 rfl ?_
      exact J_sub [0, 1] (tX12_asksOne_45  l1 l1 l2 (nI 1) M1) rfl
  · refine K_aload_n (q := 10) 0 dX12_asksOne_9 rfl rfl rfl ?_
    refine K_getR (q := 13) (ci := 7) (a2 := 201) 0 dX12_asksOne_10 fRX12_9 rfl rfl (by decide) rfl rfl ?_
    refine K_bipush (q := 15) (v := nI 8) dX12_asksOne_13 rfl rfl ?_
    refine K_dup2 (q := 16) dX12_asksOne_15 rfl ?_
    refine K_iald (q := 17) dX12_asksOne_16 rfl (fun v4 => ?_)
    refine K_iconst (q := 18) (v := nI 1) dX12_asksOne_17 rfl rfl ?_
    refine K_iadd (q := 19) dX12_asksOne_18 rfl ?_
    refine K_iast (q := 20) dX12_asksOne_19 rfl (fun M5 => ?_)
    refine J_goto (tgt := 59) dX12_asksOne_20 rfl ?_
    exact J_vret dX12_asksOne_59
theorem dX12_asksAll_0 : decode cX12_asksAll 0 = .ok (.iconst 0, 1) := by decide +kernel
theorem dX12_asksAll_1 : decode cX12_asksAll 1 = .ok (.istore_n 2, 1) := by decide +kernel
theorem dX12_asksAll_2 : decode cX12_asksAll 2 = .ok (.iload_n 2, 1) := by decide +kernel
theorem dX12_asksAll_3 : decode cX12_asksAll 3 = .ok (.aload_n 0, 1) := by decide +kernel
theorem dX12_asksAll_4 : decode cX12_asksAll 4 = .ok (.getfield 9, 3) := by decide +kernel
theorem dX12_asksAll_7 : decode cX12_asksAll 7 = .ok (.iconst 0, 1) := by decide +kernel
theorem dX12_asksAll_8 : decode cX12_asksAll 8 = .ok (.iaload, 1) := by decide +kernel
theorem dX12_asksAll_9 : decode cX12_asksAll 9 = .ok (.if_icmp .ge 20, 3) := by decide +kernel
theorem dX12_asksAll_12 : decode cX12_asksAll 12 = .ok (.iload_n 2, 1) := by decide +kernel
theorem dX12_asksAll_13 : decode cX12_asksAll 13 = .ok (.iload_n 1, 1) := by decide +kernel
theorem dX12_asksAll_14 : decode cX12_asksAll 14 = .ok (.if_icmp .eq 9, 3) := by decide +kernel
theorem dX12_asksAll_17 : decode cX12_asksAll 17 = .ok (.aload_n 0, 1) := by decide +kernel
theorem dX12_asksAll_18 : decode cX12_asksAll 18 = .ok (.iload_n 1, 1) := by decide +kernel
theorem dX12_asksAll_19 : decode cX12_asksAll 19 = .ok (.iload_n 2, 1) := by decide +kernel
theorem dX12_asksAll_20 : decode cX12_asksAll 20 = .ok (.invokevirtual 90, 3) := by decide +kernel
theorem dX12_asksAll_23 : decode cX12_asksAll 23 = .ok (.iinc 2 1, 3) := by decide +kernel
theorem dX12_asksAll_26 : decode cX12_asksAll 26 = .ok (.goto (-24), 3) := by decide +kernel
theorem dX12_asksAll_29 : decode cX12_asksAll 29 = .ok (.aload_n 0, 1) := by decide +kernel
theorem dX12_asksAll_30 : decode cX12_asksAll 30 = .ok (.iload_n 1, 1) := by decide +kernel
theorem dX12_asksAll_31 : decode cX12_asksAll 31 = .ok (.bipush 6, 2) := by decide +kernel
theorem dX12_asksAll_33 : decode cX12_asksAll 33 = .ok (.invokevirtual 90, 3) := by decide +kernel
theorem dX12_asksAll_36 : decode cX12_asksAll 36 = .ok (.return_, 1) := by decide +kernel
def xX12_asksAll_2   : Nat → Int32 → Int32 → j_M → Option (j_M)
  | 0, _, _, _ => none
  | n + 1, l1, l2, M => gd (nI 0) 7460 (oli (M 201 (ix (nI 0))) fun v1 => (if v1 ≤ l2 then obv (xX12_asksOne l1 (nI 6) M) fun M2 => some M2 else (if l2 = l1 then xX12_asksAll_2  n l1 (l2 + (nI 1)) M else obv (xX12_asksOne l1 l2 M) fun M3 => xX12_asksAll_2  n l1 (l2 + (nI 1)) M3)))
set_option maxRecDepth 20000 in
set_option maxHeartbeats 2000000 in
theorem tX12_asksAll_2    : ∀ (n : Nat) (l1 : Int32) (l2 : Int32) (M : j_M), J (ρ := j_M) yX12_asksAll cX12_asksAll 3 none 3 66 j_ev 2 [(0, .inr (17, 0, 200)), (1, .inl (l1)), (2, .inl (l2))] [] M (xX12_asksAll_2  n l1 l2 M) := by
  intro n
  induction n with
  | zero => intros; exact J_none
  | succ n ih =>
    intro l1 l2 M
    rw [xX12_asksAll_2.eq_2]
    refine K_iload_n (q := 3) 2 dX12_asksAll_2 rfl rfl rfl ?_
    refine K_aload_n (q := 4) 0 dX12_asksAll_3 rfl rfl rfl ?_
    refine K_getR (q := 7) (ci := 7) (a2 := 201) 0 dX12_asksAll_4 fRX12_9 rfl rfl (by decide) rfl rfl ?_
    refine K_iconst (q := 8) (v := nI 0) dX12_asksAll_7 rfl rfl ?_
    refine K_iald (q := 9) dX12_asksAll_8 rfl (fun v1 => ?_)
    refine K_icmp_ge (q := 12) (tgt := 29) dX12_asksAll_9 rfl ?_ rfl ?_
    · refine K_aload_n (q := 30) 0 dX12_asksAll_29 rfl rfl rfl ?_
      refine K_iload_n (q := 31) 1 dX12_asksAll_30 rfl rfl rfl ?_
      refine K_bipush (q := 33) (v := nI 6) dX12_asksAll_31 rfl rfl ?_
      refine K_cvv (q := 36) [.inl (l1), .inl ((nI 6))] dX12_asksAll_33 cb_X12_asksOne cvRX12_90 rc_7 (show (17 : Nat) ≠ 0 by decide) rfl (Nat.le_of_ble_eq_true rfl) ⟨by decide, by decide⟩ (Nat.le_of_ble_eq_true rfl) rfl (tX12_asksOne l1 (nI 6) M) rfl (fun M2 => ?_)
      exact J_vret dX12_asksAll_36
    · refine K_iload_n (q := 13) 2 dX12_asksAll_12 rfl rfl rfl ?_
      refine K_iload_n (q := 14) 1 dX12_asksAll_13 rfl rfl rfl ?_
      refine K_icmp_eq (q := 17) (tgt := 23) dX12_asksAll_14 rfl ?_ rfl ?_
      · refine K_iinc (q := 26) (v := l2 + (nI 1)) (ll' := [(2, .inl (l2 + (nI 1))), (0, .inr (17, 0, 200)), (1, .inl (l1))]) 2 dX12_asksAll_23 rfl rfl (by decide) rfl rfl ?_
        refine J_goto (tgt := 2) dX12_asksAll_26 rfl ?_
        exact J_sub [1, 2, 0] (ih l1 (l2 + (nI 1)) M) rfl
      · refine K_aload_n (q := 18) 0 dX12_asksAll_17 rfl rfl rfl ?_
        refine K_iload_n (q := 19) 1 dX12_asksAll_18 rfl rfl rfl ?_
        refine K_iload_n (q := 20) 2 dX12_asksAll_19 rfl rfl rfl ?_
        refine K_cvv (q := 23) [.inl (l1), .inl (l2)] dX12_asksAll_20 cb_X12_asksOne cvRX12_90 rc_7 (show (17 : Nat) ≠ 0 by decide) rfl (Nat.le_of_ble_eq_true rfl) ⟨by decide, by decide⟩ (Nat.le_of_ble_eq_true rfl) rfl (tX12_asksOne l1 l2 M) rfl (fun M3 => ?_)
        refine K_iinc (q := 26) (v := l2 + (nI 1)) (ll' := [(2, .inl (l2 + (nI 1))), (0, .inr (17, 0, 200)), (1, .inl (l1))]) 2 dX12_asksAll_23 rfl rfl (by decide) rfl rfl ?_
        refine J_goto (tgt := 2) dX12_asksAll_26 rfl ?_
        exact J_sub [1, 2, 0] (ih l1 (l2 + (nI 1)) M3) rfl
def xX12_asksAll  (l1 : Int32) (M : j_M) : Option (j_M) := xX12_asksAll_2 fu l1 (nI 0) M
set_option maxRecDepth 20000 in
set_option maxHeartbeats 2000000 in
theorem tX12_asksAll  (l1 : Int32) (M : j_M) : J (ρ := j_M) yX12_asksAll cX12_asksAll 3 none 3 66 j_ev 0 [(0, .inr (17, 0, 200)), (1, .inl (l1))] [] M (xX12_asksAll  l1 M) := by
  unfold xX12_asksAll
  refine K_iconst (q := 1) (v := nI 0) dX12_asksAll_0 rfl rfl ?_
  refine K_istore_n (q := 2) (ll' := [(2, .inl ((nI 0))), (0, .inr (17, 0, 200)), (1, .inl (l1))]) dX12_asksAll_1 rfl (by decide) rfl rfl ?_
  exact J_sub [1, 2, 0] (tX12_asksAll_2 fu l1 (nI 0) M) rfl
theorem dX12_place_0 : decode cX12_place 0 = .ok (.bipush 8, 2) := by decide +kernel
theorem dX12_place_2 : decode cX12_place 2 = .ok (.iload_n 0, 1) := by decide +kernel
theorem dX12_place_3 : decode cX12_place 3 = .ok (.imul, 1) := by decide +kernel
theorem dX12_place_4 : decode cX12_place 4 = .ok (.iload_n 1, 1) := by decide +kernel
theorem dX12_place_5 : decode cX12_place 5 = .ok (.iadd, 1) := by decide +kernel
theorem dX12_place_6 : decode cX12_place 6 = .ok (.ireturn, 1) := by decide +kernel
def xX12_place  (l0 : Int32) (l1 : Int32) (M : j_M) : Option (Int32 × j_M) := some (((nI 8) * l0) + l1, M)
set_option maxRecDepth 20000 in
set_option maxHeartbeats 2000000 in
theorem tX12_place  (l0 : Int32) (l1 : Int32) (M : j_M) : J (ρ := Int32 × j_M) yX12_place cX12_place 2 (some .int) 0 0 j_ei 0 [(0, .inl (l0)), (1, .inl (l1))] [] M (xX12_place  l0 l1 M) := by
  unfold xX12_place
  refine K_bipush (q := 2) (v := nI 8) dX12_place_0 rfl rfl ?_
  refine K_iload_n (q := 3) 0 dX12_place_2 rfl rfl rfl ?_
  refine K_imul (q := 4) dX12_place_3 rfl ?_
  refine K_iload_n (q := 5) 1 dX12_place_4 rfl rfl rfl ?_
  refine K_iadd (q := 6) dX12_place_5 rfl ?_
  exact J_iret dX12_place_6
theorem dX12_asks_0 : decode cX12_asks 0 = .ok (.aload_n 0, 1) := by decide +kernel
theorem dX12_asks_1 : decode cX12_asks 1 = .ok (.getfield 9, 3) := by decide +kernel
theorem dX12_asks_4 : decode cX12_asks 4 = .ok (.iconst 3, 1) := by decide +kernel
theorem dX12_asks_5 : decode cX12_asks 5 = .ok (.iaload, 1) := by decide +kernel
theorem dX12_asks_6 : decode cX12_asks 6 = .ok (.ifCond .eq 27, 3) := by decide +kernel
theorem dX12_asks_9 : decode cX12_asks 9 = .ok (.aload_n 0, 1) := by decide +kernel
theorem dX12_asks_10 : decode cX12_asks 10 = .ok (.getfield 9, 3) := by decide +kernel
theorem dX12_asks_13 : decode cX12_asks 13 = .ok (.iconst 3, 1) := by decide +kernel
theorem dX12_asks_14 : decode cX12_asks 14 = .ok (.iaload, 1) := by decide +kernel
theorem dX12_asks_15 : decode cX12_asks 15 = .ok (.iconst 2, 1) := by decide +kernel
theorem dX12_asks_16 : decode cX12_asks 16 = .ok (.if_icmp .lt 21, 3) := by decide +kernel
theorem dX12_asks_19 : decode cX12_asks 19 = .ok (.aload_n 0, 1) := by decide +kernel
theorem dX12_asks_20 : decode cX12_asks 20 = .ok (.getfield 9, 3) := by decide +kernel
theorem dX12_asks_23 : decode cX12_asks 23 = .ok (.sipush 526, 3) := by decide +kernel
theorem dX12_asks_26 : decode cX12_asks 26 = .ok (.iload_n 1, 1) := by decide +kernel
theorem dX12_asks_27 : decode cX12_asks 27 = .ok (.iadd, 1) := by decide +kernel
theorem dX12_asks_28 : decode cX12_asks 28 = .ok (.iaload, 1) := by decide +kernel
theorem dX12_asks_29 : decode cX12_asks 29 = .ok (.iconst 1, 1) := by decide +kernel
theorem dX12_asks_30 : decode cX12_asks 30 = .ok (.if_icmp .le 7, 3) := by decide +kernel
theorem dX12_asks_33 : decode cX12_asks 33 = .ok (.iconst 1, 1) := by decide +kernel
theorem dX12_asks_34 : decode cX12_asks 34 = .ok (.goto 4, 3) := by decide +kernel
theorem dX12_asks_37 : decode cX12_asks 37 = .ok (.iconst 0, 1) := by decide +kernel
theorem dX12_asks_38 : decode cX12_asks 38 = .ok (.istore_n 2, 1) := by decide +kernel
theorem dX12_asks_39 : decode cX12_asks 39 = .ok (.iload_n 2, 1) := by decide +kernel
theorem dX12_asks_40 : decode cX12_asks 40 = .ok (.ifCond .eq 9, 3) := by decide +kernel
theorem dX12_asks_43 : decode cX12_asks 43 = .ok (.aload_n 0, 1) := by decide +kernel
theorem dX12_asks_44 : decode cX12_asks 44 = .ok (.iload_n 1, 1) := by decide +kernel
theorem dX12_asks_45 : decode cX12_asks 45 = .ok (.invokevirtual 94, 3) := by decide +kernel
theorem dX12_asks_48 : decode cX12_asks 48 = .ok (.return_, 1) := by decide +kernel
theorem dX12_asks_49 : decode cX12_asks 49 = .ok (.aload_n 0, 1) := by decide +kernel
theorem dX12_asks_50 : decode cX12_asks 50 = .ok (.getfield 9, 3) := by decide +kernel
theorem dX12_asks_53 : decode cX12_asks 53 = .ok (.sipush 538, 3) := by decide +kernel
theorem dX12_asks_56 : decode cX12_asks 56 = .ok (.iload_n 1, 1) := by decide +kernel
theorem dX12_asks_57 : decode cX12_asks 57 = .ok (.aload_n 0, 1) := by decide +kernel
theorem dX12_asks_58 : decode cX12_asks 58 = .ok (.getfield 9, 3) := by decide +kernel
theorem dX12_asks_61 : decode cX12_asks 61 = .ok (.sipush 292, 3) := by decide +kernel
theorem dX12_asks_64 : decode cX12_asks 64 = .ok (.iload_n 1, 1) := by decide +kernel
theorem dX12_asks_65 : decode cX12_asks 65 = .ok (.iadd, 1) := by decide +kernel
theorem dX12_asks_66 : decode cX12_asks 66 = .ok (.iaload, 1) := by decide +kernel
theorem dX12_asks_67 : decode cX12_asks 67 = .ok (.invokestatic 61, 3) := by decide +kernel
theorem dX12_asks_70 : decode cX12_asks 70 = .ok (.iadd, 1) := by decide +kernel
theorem dX12_asks_71 : decode cX12_asks 71 = .ok (.iaload, 1) := by decide +kernel
theorem dX12_asks_72 : decode cX12_asks 72 = .ok (.istore_n 3, 1) := by decide +kernel
theorem dX12_asks_73 : decode cX12_asks 73 = .ok (.aload_n 0, 1) := by decide +kernel
theorem dX12_asks_74 : decode cX12_asks 74 = .ok (.getfield 9, 3) := by decide +kernel
theorem dX12_asks_77 : decode cX12_asks 77 = .ok (.iconst 3, 1) := by decide +kernel
theorem dX12_asks_78 : decode cX12_asks 78 = .ok (.iaload, 1) := by decide +kernel
theorem dX12_asks_79 : decode cX12_asks 79 = .ok (.iconst 1, 1) := by decide +kernel
theorem dX12_asks_80 : decode cX12_asks 80 = .ok (.if_icmp .ne 24, 3) := by decide +kernel
theorem dX12_asks_83 : decode cX12_asks 83 = .ok (.iload_n 3, 1) := by decide +kernel
theorem dX12_asks_84 : decode cX12_asks 84 = .ok (.iconst (-1), 1) := by decide +kernel
theorem dX12_asks_85 : decode cX12_asks 85 = .ok (.if_icmp .eq 19, 3) := by decide +kernel
theorem dX12_asks_88 : decode cX12_asks 88 = .ok (.iload_n 3, 1) := by decide +kernel
theorem dX12_asks_89 : decode cX12_asks 89 = .ok (.aload_n 0, 1) := by decide +kernel
theorem dX12_asks_90 : decode cX12_asks 90 = .ok (.getfield 9, 3) := by decide +kernel
theorem dX12_asks_93 : decode cX12_asks 93 = .ok (.iconst 0, 1) := by decide +kernel
theorem dX12_asks_94 : decode cX12_asks 94 = .ok (.iaload, 1) := by decide +kernel
theorem dX12_asks_95 : decode cX12_asks 95 = .ok (.if_icmp .ge 9, 3) := by decide +kernel
theorem dX12_asks_98 : decode cX12_asks 98 = .ok (.aload_n 0, 1) := by decide +kernel
theorem dX12_asks_99 : decode cX12_asks 99 = .ok (.iload_n 1, 1) := by decide +kernel
theorem dX12_asks_100 : decode cX12_asks 100 = .ok (.iload_n 3, 1) := by decide +kernel
theorem dX12_asks_101 : decode cX12_asks 101 = .ok (.invokevirtual 90, 3) := by decide +kernel
theorem dX12_asks_104 : decode cX12_asks 104 = .ok (.aload_n 0, 1) := by decide +kernel
theorem dX12_asks_105 : decode cX12_asks 105 = .ok (.getfield 9, 3) := by decide +kernel
theorem dX12_asks_108 : decode cX12_asks 108 = .ok (.iconst 3, 1) := by decide +kernel
theorem dX12_asks_109 : decode cX12_asks 109 = .ok (.iaload, 1) := by decide +kernel
theorem dX12_asks_110 : decode cX12_asks 110 = .ok (.iconst 3, 1) := by decide +kernel
theorem dX12_asks_111 : decode cX12_asks 111 = .ok (.if_icmp .ne 29, 3) := by decide +kernel
theorem dX12_asks_114 : decode cX12_asks 114 = .ok (.aload_n 0, 1) := by decide +kernel
theorem dX12_asks_115 : decode cX12_asks 115 = .ok (.getfield 9, 3) := by decide +kernel
theorem dX12_asks_118 : decode cX12_asks 118 = .ok (.sipush 6766, 3) := by decide +kernel
theorem dX12_asks_121 : decode cX12_asks 121 = .ok (.iload_n 1, 1) := by decide +kernel
theorem dX12_asks_122 : decode cX12_asks 122 = .ok (.aload_n 0, 1) := by decide +kernel
theorem dX12_asks_123 : decode cX12_asks 123 = .ok (.getfield 9, 3) := by decide +kernel
theorem dX12_asks_126 : decode cX12_asks 126 = .ok (.sipush 292, 3) := by decide +kernel
theorem dX12_asks_129 : decode cX12_asks 129 = .ok (.iload_n 1, 1) := by decide +kernel
theorem dX12_asks_130 : decode cX12_asks 130 = .ok (.iadd, 1) := by decide +kernel
theorem dX12_asks_131 : decode cX12_asks 131 = .ok (.iaload, 1) := by decide +kernel
theorem dX12_asks_132 : decode cX12_asks 132 = .ok (.invokestatic 61, 3) := by decide +kernel
theorem dX12_asks_135 : decode cX12_asks 135 = .ok (.iadd, 1) := by decide +kernel
theorem dX12_asks_136 : decode cX12_asks 136 = .ok (.iaload, 1) := by decide +kernel
theorem dX12_asks_137 : decode cX12_asks 137 = .ok (.goto 4, 3) := by decide +kernel
theorem dX12_asks_140 : decode cX12_asks 140 = .ok (.iconst 0, 1) := by decide +kernel
theorem dX12_asks_141 : decode cX12_asks 141 = .ok (.istore 4, 2) := by decide +kernel
theorem dX12_asks_143 : decode cX12_asks 143 = .ok (.iconst 0, 1) := by decide +kernel
theorem dX12_asks_144 : decode cX12_asks 144 = .ok (.istore 5, 2) := by decide +kernel
theorem dX12_asks_146 : decode cX12_asks 146 = .ok (.iload 5, 2) := by decide +kernel
theorem dX12_asks_148 : decode cX12_asks 148 = .ok (.aload_n 0, 1) := by decide +kernel
theorem dX12_asks_149 : decode cX12_asks 149 = .ok (.getfield 9, 3) := by decide +kernel
theorem dX12_asks_152 : decode cX12_asks 152 = .ok (.iconst 0, 1) := by decide +kernel
theorem dX12_asks_153 : decode cX12_asks 153 = .ok (.iaload, 1) := by decide +kernel
theorem dX12_asks_154 : decode cX12_asks 154 = .ok (.if_icmp .ge 27, 3) := by decide +kernel
theorem dX12_asks_157 : decode cX12_asks 157 = .ok (.iload 4, 2) := by decide +kernel
theorem dX12_asks_159 : decode cX12_asks 159 = .ok (.iload 5, 2) := by decide +kernel
theorem dX12_asks_161 : decode cX12_asks 161 = .ok (.ishr, 1) := by decide +kernel
theorem dX12_asks_162 : decode cX12_asks 162 = .ok (.iconst 1, 1) := by decide +kernel
theorem dX12_asks_163 : decode cX12_asks 163 = .ok (.iand, 1) := by decide +kernel
theorem dX12_asks_164 : decode cX12_asks 164 = .ok (.iconst 1, 1) := by decide +kernel
theorem dX12_asks_165 : decode cX12_asks 165 = .ok (.if_icmp .ne 10, 3) := by decide +kernel
theorem dX12_asks_168 : decode cX12_asks 168 = .ok (.aload_n 0, 1) := by decide +kernel
theorem dX12_asks_169 : decode cX12_asks 169 = .ok (.iload_n 1, 1) := by decide +kernel
theorem dX12_asks_170 : decode cX12_asks 170 = .ok (.iload 5, 2) := by decide +kernel
theorem dX12_asks_172 : decode cX12_asks 172 = .ok (.invokevirtual 90, 3) := by decide +kernel
theorem dX12_asks_175 : decode cX12_asks 175 = .ok (.iinc 5 1, 3) := by decide +kernel
theorem dX12_asks_178 : decode cX12_asks 178 = .ok (.goto (-32), 3) := by decide +kernel
theorem dX12_asks_181 : decode cX12_asks 181 = .ok (.aload_n 0, 1) := by decide +kernel
theorem dX12_asks_182 : decode cX12_asks 182 = .ok (.iload_n 1, 1) := by decide +kernel
theorem dX12_asks_183 : decode cX12_asks 183 = .ok (.bipush 6, 2) := by decide +kernel
theorem dX12_asks_185 : decode cX12_asks 185 = .ok (.invokevirtual 90, 3) := by decide +kernel
theorem dX12_asks_188 : decode cX12_asks 188 = .ok (.return_, 1) := by decide +kernel
def xX12_asks_146   : Nat → Int32 → Int32 → Int32 → j_M → Option (j_M)
  | 0, _, _, _, _ => none
  | n + 1, l1, l4, l5, M => gd (nI 0) 7460 (oli (M 201 (ix (nI 0))) fun v1 => (if v1 ≤ l5 then obv (xX12_asksOne l1 (nI 6) M) fun M2 => some M2 else (if (l4 >>> (l5 &&& 31)) &&& (nI 1) = (nI 1) then obv (xX12_asksOne l1 l5 M) fun M3 => xX12_asks_146  n l1 l4 (l5 + (nI 1)) M3 else xX12_asks_146  n l1 l4 (l5 + (nI 1)) M)))
set_option maxRecDepth 20000 in
set_option maxHeartbeats 2000000 in
theorem tX12_asks_146    : ∀ (n : Nat) (l1 : Int32) (l4 : Int32) (l5 : Int32) (M : j_M), J (ρ := j_M) yX12_asks cX12_asks 6 none 4 88 j_ev 146 [(0, .inr (17, 0, 200)), (1, .inl (l1)), (4, .inl (l4)), (5, .inl (l5))] [] M (xX12_asks_146  n l1 l4 l5 M) := by
  intro n
  induction n with
  | zero => intros; exact J_none
  | succ n ih =>
    intro l1 l4 l5 M
    rw [xX12_asks_146.eq_2]
    refine K_iload (q := 148) 3 dX12_asks_146 rfl rfl ?_
    refine K_aload_n (q := 149) 0 dX12_asks_148 rfl rfl rfl ?_
    refine K_getR (q := 152) (ci := 7) (a2 := 201) 0 dX12_asks_149 fRX12_9 rfl rfl (by decide) rfl rfl ?_
    refine K_iconst (q := 153) (v := nI 0) dX12_asks_152 rfl rfl ?_
    refine K_iald (q := 154) dX12_asks_153 rfl (fun v1 => ?_)
    refine K_icmp_ge (q := 157) (tgt := 181) dX12_asks_154 rfl ?_ rfl ?_
    · refine K_aload_n (q := 182) 0 dX12_asks_181 rfl rfl rfl ?_
      refine K_iload_n (q := 183) 1 dX12_asks_182 rfl rfl rfl ?_
      refine K_bipush (q := 185) (v := nI 6) dX12_asks_183 rfl rfl ?_
      refine K_cvv (q := 188) [.inl (l1), .inl ((nI 6))] dX12_asks_185 cb_X12_asksOne cvRX12_90 rc_7 (show (17 : Nat) ≠ 0 by decide) rfl (Nat.le_of_ble_eq_true rfl) ⟨by decide, by decide⟩ (Nat.le_of_ble_eq_true rfl) rfl (tX12_asksOne l1 (nI 6) M) rfl (fun M2 => ?_)
      exact J_vret dX12_asks_188
    · refine K_iload (q := 159) 2 dX12_asks_157 rfl rfl ?_
      refine K_iload (q := 161) 3 dX12_asks_159 rfl rfl ?_
      refine K_ishr (q := 162) dX12_asks_161 rfl ?_
      refine K_iconst (q := 163) (v := nI 1) dX12_asks_162 rfl rfl ?_
      refine K_iand (q := 164) dX12_asks_163 rfl ?_
      refine K_iconst (q := 165) (v := nI 1) dX12_asks_164 rfl rfl ?_
      refine K_icmp_ne (q := 168) (tgt := 175) dX12_asks_165 rfl ?_ rfl ?_
      · refine K_iinc (q := 178) (v := l5 + (nI 1)) (ll' := [(5, .inl (l5 + (nI 1))), (0, .inr (17, 0, 200)), (1, .inl (l1)), (4, .inl (l4))]) 3 dX12_asks_175 rfl rfl (by decide) rfl rfl ?_
        refine J_goto (tgt := 146) dX12_asks_178 rfl ?_
        exact J_sub [1, 2, 3, 0] (ih l1 l4 (l5 + (nI 1)) M) rfl
      · refine K_aload_n (q := 169) 0 dX12_asks_168 rfl rfl rfl ?_
        refine K_iload_n (q := 170) 1 dX12_asks_169 rfl rfl rfl ?_
        refine K_iload (q := 172) 3 dX12_asks_170 rfl rfl ?_
        refine K_cvv (q := 175) [.inl (l1), .inl (l5)] dX12_asks_172 cb_X12_asksOne cvRX12_90 rc_7 (show (17 : Nat) ≠ 0 by decide) rfl (Nat.le_of_ble_eq_true rfl) ⟨by decide, by decide⟩ (Nat.le_of_ble_eq_true rfl) rfl (tX12_asksOne l1 l5 M) rfl (fun M3 => ?_)
        refine K_iinc (q := 178) (v := l5 + (nI 1)) (ll' := [(5, .inl (l5 + (nI 1))), (0, .inr (17, 0, 200)), (1, .inl (l1)), (4, .inl (l4))]) 3 dX12_asks_175 rfl rfl (by decide) rfl rfl ?_
        refine J_goto (tgt := 146) dX12_asks_178 rfl ?_
        exact J_sub [1, 2, 3, 0] (ih l1 l4 (l5 + (nI 1)) M3) rfl
def xX12_asks_141   (l1 : Int32) (s0 : Int32) (M : j_M) : Option (j_M) := xX12_asks_146 fu l1 s0 (nI 0) M
set_option maxRecDepth 20000 in
set_option maxHeartbeats 2000000 in
theorem tX12_asks_141    (l1 : Int32) (s0 : Int32) (M : j_M) : J (ρ := j_M) yX12_asks cX12_asks 6 none 4 88 j_ev 141 [(0, .inr (17, 0, 200)), (1, .inl (l1))] [.inl (s0)] M (xX12_asks_141  l1 s0 M) := by
  unfold xX12_asks_141
  refine K_istore (q := 143) (ll' := [(4, .inl (s0)), (0, .inr (17, 0, 200)), (1, .inl (l1))]) dX12_asks_141 (by decide) rfl rfl ?_
  refine K_iconst (q := 144) (v := nI 0) dX12_asks_143 rfl rfl ?_
  refine K_istore (q := 146) (ll' := [(5, .inl ((nI 0))), (4, .inl (s0)), (0, .inr (17, 0, 200)), (1, .inl (l1))]) dX12_asks_144 (by decide) rfl rfl ?_
  exact J_sub [2, 3, 1, 0] (tX12_asks_146 fu l1 s0 (nI 0) M) rfl
def xX12_asks_104   (l1 : Int32) (M : j_M) : Option (j_M) := gd (nI 3) 7460 (oli (M 201 (ix (nI 3))) fun v1 => (if v1 = (nI 3) then gd ((nI 292) + l1) 7460 (oli (M 201 (ix ((nI 292) + l1))) fun v2 => obi (xX12_place l1 v2 M) fun v4 M3 => gd ((nI 6766) + v4) 7460 (oli (M3 201 (ix ((nI 6766) + v4))) fun v5 => xX12_asks_141  l1 v5 M3)) else xX12_asks_141  l1 (nI 0) M))
set_option maxRecDepth 20000 in
set_option maxHeartbeats 2000000 in
theorem tX12_asks_104    (l1 : Int32) (M : j_M) : J (ρ := j_M) yX12_asks cX12_asks 6 none 4 88 j_ev 104 [(0, .inr (17, 0, 200)), (1, .inl (l1))] [] M (xX12_asks_104  l1 M) := by
  unfold xX12_asks_104
  refine K_aload_n (q := 105) 0 dX12_asks_104 rfl rfl rfl ?_
  refine K_getR (q := 108) (ci := 7) (a2 := 201) 0 dX12_asks_105 fRX12_9 rfl rfl (by decide) rfl rfl ?_
  refine K_iconst (q := 109) (v := nI 3) dX12_asks_108 rfl rfl ?_
  refine K_iald (q := 110) dX12_asks_109 rfl (fun v1 => ?_)
  refine K_iconst (q := 111) (v := nI 3) dX12_asks_110 rfl rfl ?_
  refine K_icmp_ne (q := 114) (tgt := 140) dX12_asks_111 rfl ?_ rfl ?_
  · refine K_iconst (q := 141) (v := nI 0) dX12_asks_140 rfl rfl ?_
    exact J_sub [0, 1] (tX12_asks_141  l1 (nI 0) M) rfl
  · refine K_aload_n (q := 115) 0 dX12_asks_114 rfl rfl rfl ?_
    refine K_getR (q := 118) (ci := 7) (a2 := 201) 0 dX12_asks_115 fRX12_9 rfl rfl (by decide) rfl rfl ?_
    refine K_sipush (q := 121) (v := nI 6766) dX12_asks_118 rfl rfl ?_
    refine K_iload_n (q := 122) 1 dX12_asks_121 rfl rfl rfl ?_
    refine K_aload_n (q := 123) 0 dX12_asks_122 rfl rfl rfl ?_
    refine K_getR (q := 126) (ci := 7) (a2 := 201) 0 dX12_asks_123 fRX12_9 rfl rfl (by decide) rfl rfl ?_
    refine K_sipush (q := 129) (v := nI 292) dX12_asks_126 rfl rfl ?_
    refine K_iload_n (q := 130) 1 dX12_asks_129 rfl rfl rfl ?_
    refine K_iadd (q := 131) dX12_asks_130 rfl ?_
    refine K_iald (q := 132) dX12_asks_131 rfl (fun v2 => ?_)
    refine K_csi (q := 135) [.inl (l1), .inl (v2)] dX12_asks_132 cb_X12_place cvRX12_61 rfl (Nat.le_of_ble_eq_true rfl) ⟨by decide, by decide⟩ (Nat.le_of_ble_eq_true rfl) rfl (tX12_place l1 v2 M) rfl (fun v4 M3 => ?_)
    refine K_iadd (q := 136) dX12_asks_135 rfl ?_
    refine K_iald (q := 137) dX12_asks_136 rfl (fun v5 => ?_)
    refine J_goto (tgt := 141) dX12_asks_137 rfl ?_
    exact J_sub [0, 1] (tX12_asks_141  l1 v5 M3) rfl
def xX12_asks_38   (l1 : Int32) (s0 : Int32) (M : j_M) : Option (j_M) := (if s0 = (0 : Int32) then gd ((nI 292) + l1) 7460 (oli (M 201 (ix ((nI 292) + l1))) fun v1 => obi (xX12_place l1 v1 M) fun v3 M2 => gd ((nI 538) + v3) 7460 (oli (M2 201 (ix ((nI 538) + v3))) fun v4 => gd (nI 3) 7460 (oli (M2 201 (ix (nI 3))) fun v5 => (if v5 = (nI 1) then (if v4 = (-1 : Int32) then xX12_asks_104  l1 M2 else gd (nI 0) 7460 (oli (M2 201 (ix (nI 0))) fun v6 => (if v6 ≤ v4 then xX12_asks_104  l1 M2 else obv (xX12_asksOne l1 v4 M2) fun M7 => xX12_asks_104  l1 M7))) else xX12_asks_104  l1 M2)))) else obv (xX12_asksAll l1 M) fun M8 => some M8)
set_option maxRecDepth 20000 in
set_option maxHeartbeats 2000000 in
theorem tX12_asks_38    (l1 : Int32) (s0 : Int32) (M : j_M) : J (ρ := j_M) yX12_asks cX12_asks 6 none 4 88 j_ev 38 [(0, .inr (17, 0, 200)), (1, .inl (l1))] [.inl (s0)] M (xX12_asks_38  l1 s0 M) := by
  unfold xX12_asks_38
  refine K_istore_n (q := 39) (ll' := [(2, .inl (s0)), (0, .inr (17, 0, 200)), (1, .inl (l1))]) dX12_asks_38 rfl (by decide) rfl rfl ?_
  refine K_iload_n (q := 40) 0 dX12_asks_39 rfl rfl rfl ?_
  refine K_if_eq (q := 43) (tgt := 49) dX12_asks_40 rfl ?_ rfl ?_
  · refine K_aload_n (q := 50) 1 dX12_asks_49 rfl rfl rfl ?_
    refine K_getR (q := 53) (ci := 7) (a2 := 201) 0 dX12_asks_50 fRX12_9 rfl rfl (by decide) rfl rfl ?_
    refine K_sipush (q := 56) (v := nI 538) dX12_asks_53 rfl rfl ?_
    refine K_iload_n (q := 57) 2 dX12_asks_56 rfl rfl rfl ?_
    refine K_aload_n (q := 58) 1 dX12_asks_57 rfl rfl rfl ?_
    refine K_getR (q := 61) (ci := 7) (a2 := 201) 0 dX12_asks_58 fRX12_9 rfl rfl (by decide) rfl rfl ?_
    refine K_sipush (q := 64) (v := nI 292) dX12_asks_61 rfl rfl ?_
    refine K_iload_n (q := 65) 2 dX12_asks_64 rfl rfl rfl ?_
    refine K_iadd (q := 66) dX12_asks_65 rfl ?_
    refine K_iald (q := 67) dX12_asks_66 rfl (fun v1 => ?_)
    refine K_csi (q := 70) [.inl (l1), .inl (v1)] dX12_asks_67 cb_X12_place cvRX12_61 rfl (Nat.le_of_ble_eq_true rfl) ⟨by decide, by decide⟩ (Nat.le_of_ble_eq_true rfl) rfl (tX12_place l1 v1 M) rfl (fun v3 M2 => ?_)
    refine K_iadd (q := 71) dX12_asks_70 rfl ?_
    refine K_iald (q := 72) dX12_asks_71 rfl (fun v4 => ?_)
    refine K_istore_n (q := 73) (ll' := [(3, .inl (v4)), (2, .inl (s0)), (0, .inr (17, 0, 200)), (1, .inl (l1))]) dX12_asks_72 rfl (by decide) rfl rfl ?_
    refine K_aload_n (q := 74) 2 dX12_asks_73 rfl rfl rfl ?_
    refine K_getR (q := 77) (ci := 7) (a2 := 201) 0 dX12_asks_74 fRX12_9 rfl rfl (by decide) rfl rfl ?_
    refine K_iconst (q := 78) (v := nI 3) dX12_asks_77 rfl rfl ?_
    refine K_iald (q := 79) dX12_asks_78 rfl (fun v5 => ?_)
    refine K_iconst (q := 80) (v := nI 1) dX12_asks_79 rfl rfl ?_
    refine K_icmp_ne (q := 83) (tgt := 104) dX12_asks_80 rfl ?_ rfl ?_
    · exact J_sub [2, 3] (tX12_asks_104  l1 M2) rfl
    · refine K_iload_n (q := 84) 0 dX12_asks_83 rfl rfl rfl ?_
      refine K_iconst (q := 85) (v := -1) dX12_asks_84 rfl rfl ?_
      refine K_icmp_eq (q := 88) (tgt := 104) dX12_asks_85 rfl ?_ rfl ?_
      · exact J_sub [2, 3] (tX12_asks_104  l1 M2) rfl
      · refine K_iload_n (q := 89) 0 dX12_asks_88 rfl rfl rfl ?_
        refine K_aload_n (q := 90) 2 dX12_asks_89 rfl rfl rfl ?_
        refine K_getR (q := 93) (ci := 7) (a2 := 201) 0 dX12_asks_90 fRX12_9 rfl rfl (by decide) rfl rfl ?_
        refine K_iconst (q := 94) (v := nI 0) dX12_asks_93 rfl rfl ?_
        refine K_iald (q := 95) dX12_asks_94 rfl (fun v6 => ?_)
        refine K_icmp_ge (q := 98) (tgt := 104) dX12_asks_95 rfl ?_ rfl ?_
        · exact J_sub [2, 3] (tX12_asks_104  l1 M2) rfl
        · refine K_aload_n (q := 99) 2 dX12_asks_98 rfl rfl rfl ?_
          refine K_iload_n (q := 100) 3 dX12_asks_99 rfl rfl rfl ?_
          refine K_iload_n (q := 101) 0 dX12_asks_100 rfl rfl rfl ?_
          refine K_cvv (q := 104) [.inl (l1), .inl (v4)] dX12_asks_101 cb_X12_asksOne cvRX12_90 rc_7 (show (17 : Nat) ≠ 0 by decide) rfl (Nat.le_of_ble_eq_true rfl) ⟨by decide, by decide⟩ (Nat.le_of_ble_eq_true rfl) rfl (tX12_asksOne l1 v4 M2) rfl (fun M7 => ?_)
          exact J_sub [2, 3] (tX12_asks_104  l1 M7) rfl
  · refine K_aload_n (q := 44) 1 dX12_asks_43 rfl rfl rfl ?_
    refine K_iload_n (q := 45) 2 dX12_asks_44 rfl rfl rfl ?_
    refine K_cvv (q := 48) [.inl (l1)] dX12_asks_45 cb_X12_asksAll cvRX12_94 rc_7 (show (17 : Nat) ≠ 0 by decide) rfl (Nat.le_of_ble_eq_true rfl) ⟨by decide, by decide⟩ (Nat.le_of_ble_eq_true rfl) rfl (tX12_asksAll l1 M) rfl (fun M8 => ?_)
    exact J_vret dX12_asks_48
def xX12_asks_37   (l1 : Int32) (M : j_M) : Option (j_M) := xX12_asks_38  l1 (nI 0) M
set_option maxRecDepth 20000 in
set_option maxHeartbeats 2000000 in
theorem tX12_asks_37    (l1 : Int32) (M : j_M) : J (ρ := j_M) yX12_asks cX12_asks 6 none 4 88 j_ev 37 [(0, .inr (17, 0, 200)), (1, .inl (l1))] [] M (xX12_asks_37  l1 M) := by
  unfold xX12_asks_37
  refine K_iconst (q := 38) (v := nI 0) dX12_asks_37 rfl rfl ?_
  exact J_sub [0, 1] (tX12_asks_38  l1 (nI 0) M) rfl
def xX12_asks_33   (l1 : Int32) (M : j_M) : Option (j_M) := xX12_asks_38  l1 (nI 1) M
set_option maxRecDepth 20000 in
set_option maxHeartbeats 2000000 in
theorem tX12_asks_33    (l1 : Int32) (M : j_M) : J (ρ := j_M) yX12_asks cX12_asks 6 none 4 88 j_ev 33 [(0, .inr (17, 0, 200)), (1, .inl (l1))] [] M (xX12_asks_33  l1 M) := by
  unfold xX12_asks_33
  refine K_iconst (q := 34) (v := nI 1) dX12_asks_33 rfl rfl ?_
  refine J_goto (tgt := 38) dX12_asks_34 rfl ?_
  exact J_sub [0, 1] (tX12_asks_38  l1 (nI 1) M) rfl
def xX12_asks  (l1 : Int32) (M : j_M) : Option (j_M) := gd (nI 3) 7460 (oli (M 201 (ix (nI 3))) fun v1 => (if v1 = (0 : Int32) then xX12_asks_33  l1 M else gd (nI 3) 7460 (oli (M 201 (ix (nI 3))) fun v2 => (if v2 < (nI 2) then xX12_asks_37  l1 M else gd ((nI 526) + l1) 7460 (oli (M 201 (ix ((nI 526) + l1))) fun v3 => (if v3 ≤ (nI 1) then xX12_asks_37  l1 M else xX12_asks_33  l1 M))))))
set_option maxRecDepth 20000 in
set_option maxHeartbeats 2000000 in
theorem tX12_asks  (l1 : Int32) (M : j_M) : J (ρ := j_M) yX12_asks cX12_asks 6 none 4 88 j_ev 0 [(0, .inr (17, 0, 200)), (1, .inl (l1))] [] M (xX12_asks  l1 M) := by
  unfold xX12_asks
  refine K_aload_n (q := 1) 0 dX12_asks_0 rfl rfl rfl ?_
  refine K_getR (q := 4) (ci := 7) (a2 := 201) 0 dX12_asks_1 fRX12_9 rfl rfl (by decide) rfl rfl ?_
  refine K_iconst (q := 5) (v := nI 3) dX12_asks_4 rfl rfl ?_
  refine K_iald (q := 6) dX12_asks_5 rfl (fun v1 => ?_)
  refine K_if_eq (q := 9) (tgt := 33) dX12_asks_6 rfl ?_ rfl ?_
  · exact J_sub [0, 1] (tX12_asks_33  l1 M) rfl
  · refine K_aload_n (q := 10) 0 dX12_asks_9 rfl rfl rfl ?_
    refine K_getR (q := 13) (ci := 7) (a2 := 201) 0 dX12_asks_10 fRX12_9 rfl rfl (by decide) rfl rfl ?_
    refine K_iconst (q := 14) (v := nI 3) dX12_asks_13 rfl rfl ?_
    refine K_iald (q := 15) dX12_asks_14 rfl (fun v2 => ?_)
    refine K_iconst (q := 16) (v := nI 2) dX12_asks_15 rfl rfl ?_
    refine K_icmp_lt (q := 19) (tgt := 37) dX12_asks_16 rfl ?_ rfl ?_
    · exact J_sub [0, 1] (tX12_asks_37  l1 M) rfl
    · refine K_aload_n (q := 20) 0 dX12_asks_19 rfl rfl rfl ?_
      refine K_getR (q := 23) (ci := 7) (a2 := 201) 0 dX12_asks_20 fRX12_9 rfl rfl (by decide) rfl rfl ?_
      refine K_sipush (q := 26) (v := nI 526) dX12_asks_23 rfl rfl ?_
      refine K_iload_n (q := 27) 1 dX12_asks_26 rfl rfl rfl ?_
      refine K_iadd (q := 28) dX12_asks_27 rfl ?_
      refine K_iald (q := 29) dX12_asks_28 rfl (fun v3 => ?_)
      refine K_iconst (q := 30) (v := nI 1) dX12_asks_29 rfl rfl ?_
      refine K_icmp_le (q := 33) (tgt := 37) dX12_asks_30 rfl ?_ rfl ?_
      · exact J_sub [0, 1] (tX12_asks_37  l1 M) rfl
      · exact J_sub [0, 1] (tX12_asks_33  l1 M) rfl
theorem dX12_sees_0 : decode cX12_sees 0 = .ok (.aload_n 0, 1) := by decide +kernel
theorem dX12_sees_1 : decode cX12_sees 1 = .ok (.getfield 9, 3) := by decide +kernel
theorem dX12_sees_4 : decode cX12_sees 4 = .ok (.sipush 2746, 3) := by decide +kernel
theorem dX12_sees_7 : decode cX12_sees 7 = .ok (.iload_n 1, 1) := by decide +kernel
theorem dX12_sees_8 : decode cX12_sees 8 = .ok (.iadd, 1) := by decide +kernel
theorem dX12_sees_9 : decode cX12_sees 9 = .ok (.iaload, 1) := by decide +kernel
theorem dX12_sees_10 : decode cX12_sees 10 = .ok (.bipush 60, 2) := by decide +kernel
theorem dX12_sees_12 : decode cX12_sees 12 = .ok (.if_icmp .ne 4, 3) := by decide +kernel
theorem dX12_sees_15 : decode cX12_sees 15 = .ok (.return_, 1) := by decide +kernel
theorem dX12_sees_16 : decode cX12_sees 16 = .ok (.aload_n 0, 1) := by decide +kernel
theorem dX12_sees_17 : decode cX12_sees 17 = .ok (.getfield 9, 3) := by decide +kernel
theorem dX12_sees_20 : decode cX12_sees 20 = .ok (.sipush 2752, 3) := by decide +kernel
theorem dX12_sees_23 : decode cX12_sees 23 = .ok (.bipush 60, 2) := by decide +kernel
theorem dX12_sees_25 : decode cX12_sees 25 = .ok (.iload_n 1, 1) := by decide +kernel
theorem dX12_sees_26 : decode cX12_sees 26 = .ok (.imul, 1) := by decide +kernel
theorem dX12_sees_27 : decode cX12_sees 27 = .ok (.iadd, 1) := by decide +kernel
theorem dX12_sees_28 : decode cX12_sees 28 = .ok (.aload_n 0, 1) := by decide +kernel
theorem dX12_sees_29 : decode cX12_sees 29 = .ok (.getfield 9, 3) := by decide +kernel
theorem dX12_sees_32 : decode cX12_sees 32 = .ok (.sipush 2746, 3) := by decide +kernel
theorem dX12_sees_35 : decode cX12_sees 35 = .ok (.iload_n 1, 1) := by decide +kernel
theorem dX12_sees_36 : decode cX12_sees 36 = .ok (.iadd, 1) := by decide +kernel
theorem dX12_sees_37 : decode cX12_sees 37 = .ok (.iaload, 1) := by decide +kernel
theorem dX12_sees_38 : decode cX12_sees 38 = .ok (.iadd, 1) := by decide +kernel
theorem dX12_sees_39 : decode cX12_sees 39 = .ok (.iload_n 2, 1) := by decide +kernel
theorem dX12_sees_40 : decode cX12_sees 40 = .ok (.iastore, 1) := by decide +kernel
theorem dX12_sees_41 : decode cX12_sees 41 = .ok (.aload_n 0, 1) := by decide +kernel
theorem dX12_sees_42 : decode cX12_sees 42 = .ok (.getfield 9, 3) := by decide +kernel
theorem dX12_sees_45 : decode cX12_sees 45 = .ok (.sipush 2746, 3) := by decide +kernel
theorem dX12_sees_48 : decode cX12_sees 48 = .ok (.iload_n 1, 1) := by decide +kernel
theorem dX12_sees_49 : decode cX12_sees 49 = .ok (.iadd, 1) := by decide +kernel
theorem dX12_sees_50 : decode cX12_sees 50 = .ok (.dup2, 1) := by decide +kernel
theorem dX12_sees_51 : decode cX12_sees 51 = .ok (.iaload, 1) := by decide +kernel
theorem dX12_sees_52 : decode cX12_sees 52 = .ok (.iconst 1, 1) := by decide +kernel
theorem dX12_sees_53 : decode cX12_sees 53 = .ok (.iadd, 1) := by decide +kernel
theorem dX12_sees_54 : decode cX12_sees 54 = .ok (.iastore, 1) := by decide +kernel
theorem dX12_sees_55 : decode cX12_sees 55 = .ok (.return_, 1) := by decide +kernel
def xX12_sees  (l1 : Int32) (l2 : Int32) (M : j_M) : Option (j_M) := gd ((nI 2746) + l1) 7460 (oli (M 201 (ix ((nI 2746) + l1))) fun v1 => (if v1 = (nI 60) then some M else gd ((nI 2746) + l1) 7460 (oli (M 201 (ix ((nI 2746) + l1))) fun v2 => gd (((nI 2752) + ((nI 60) * l1)) + v2) 7460 (oml (mw M 201 (ix (((nI 2752) + ((nI 60) * l1)) + v2)) l2) fun M3 => gd ((nI 2746) + l1) 7460 (oli (M3 201 (ix ((nI 2746) + l1))) fun v4 => gd ((nI 2746) + l1) 7460 (oml (mw M3 201 (ix ((nI 2746) + l1)) (v4 + (nI 1))) fun M5 => some M5))))))
set_option maxRecDepth 20000 in
set_option maxHeartbeats 2000000 in
theorem tX12_sees  (l1 : Int32) (l2 : Int32) (M : j_M) : J (ρ := j_M) yX12_sees cX12_sees 3 none 0 0 j_ev 0 [(0, .inr (17, 0, 200)), (1, .inl (l1)), (2, .inl (l2))] [] M (xX12_sees  l1 l2 M) := by
  unfold xX12_sees
  refine K_aload_n (q := 1) 0 dX12_sees_0 rfl rfl rfl ?_
  refine K_getR (q := 4) (ci := 7) (a2 := 201) 0 dX12_sees_1 fRX12_9 rfl rfl (by decide) rfl rfl ?_
  refine K_sipush (q := 7) (v := nI 2746) dX12_sees_4 rfl rfl ?_
  refine K_iload_n (q := 8) 1 dX12_sees_7 rfl rfl rfl ?_
  refine K_iadd (q := 9) dX12_sees_8 rfl ?_
  refine K_iald (q := 10) dX12_sees_9 rfl (fun v1 => ?_)
  refine K_bipush (q := 12) (v := nI 60) dX12_sees_10 rfl rfl ?_
  refine K_icmp_ne (q := 15) (tgt := 16) dX12_sees_12 rfl ?_ rfl ?_
  · refine K_aload_n (q := 17) 0 dX12_sees_16 rfl rfl rfl ?_
    refine K_getR (q := 20) (ci := 7) (a2 := 201) 0 dX12_sees_17 fRX12_9 rfl rfl (by decide) rfl rfl ?_
    refine K_sipush (q := 23) (v := nI 2752) dX12_sees_20 rfl rfl ?_
    refine K_bipush (q := 25) (v := nI 60) dX12_sees_23 rfl rfl ?_
    refine K_iload_n (q := 26) 1 dX12_sees_25 rfl rfl rfl ?_
    refine K_imul (q := 27) dX12_sees_26 rfl ?_
    refine K_iadd (q := 28) dX12_sees_27 rfl ?_
    refine K_aload_n (q := 29) 0 dX12_sees_28 rfl rfl rfl ?_
    refine K_getR (q := 32) (ci := 7) (a2 := 201) 0 dX12_sees_29 fRX12_9 rfl rfl (by decide) rfl rfl ?_
    refine K_sipush (q := 35) (v := nI 2746) dX12_sees_32 rfl rfl ?_
    refine K_iload_n (q := 36) 1 dX12_sees_35 rfl rfl rfl ?_
    refine K_iadd (q := 37) dX12_sees_36 rfl ?_
    refine K_iald (q := 38) dX12_sees_37 rfl (fun v2 => ?_)
    refine K_iadd (q := 39) dX12_sees_38 rfl ?_
    refine K_iload_n (q := 40) 2 dX12_sees_39 rfl rfl rfl ?_
    refine K_iast (q := 41) dX12_sees_40 rfl (fun M3 => ?_)
    refine K_aload_n (q := 42) 0 dX12_sees_41 rfl rfl rfl ?_
    refine K_getR (q := 45) (ci := 7) (a2 := 201) 0 dX12_sees_42 fRX12_9 rfl rfl (by decide) rfl rfl ?_
    refine K_sipush (q := 48) (v := nI 2746) dX12_sees_45 rfl rfl ?_
    refine K_iload_n (q := 49) 1 dX12_sees_48 rfl rfl rfl ?_
    refine K_iadd (q := 50) dX12_sees_49 rfl ?_
    refine K_dup2 (q := 51) dX12_sees_50 rfl ?_
    refine K_iald (q := 52) dX12_sees_51 rfl (fun v4 => ?_)
    refine K_iconst (q := 53) (v := nI 1) dX12_sees_52 rfl rfl ?_
    refine K_iadd (q := 54) dX12_sees_53 rfl ?_
    refine K_iast (q := 55) dX12_sees_54 rfl (fun M5 => ?_)
    exact J_vret dX12_sees_55
  · exact J_vret dX12_sees_15
theorem dX12_usedAt_0 : decode cX12_usedAt 0 = .ok (.iconst 0, 1) := by decide +kernel
theorem dX12_usedAt_1 : decode cX12_usedAt 1 = .ok (.istore_n 3, 1) := by decide +kernel
theorem dX12_usedAt_2 : decode cX12_usedAt 2 = .ok (.iload_n 3, 1) := by decide +kernel
theorem dX12_usedAt_3 : decode cX12_usedAt 3 = .ok (.aload_n 0, 1) := by decide +kernel
theorem dX12_usedAt_4 : decode cX12_usedAt 4 = .ok (.getfield 9, 3) := by decide +kernel
theorem dX12_usedAt_7 : decode cX12_usedAt 7 = .ok (.sipush 238, 3) := by decide +kernel
theorem dX12_usedAt_10 : decode cX12_usedAt 10 = .ok (.iload_n 1, 1) := by decide +kernel
theorem dX12_usedAt_11 : decode cX12_usedAt 11 = .ok (.iadd, 1) := by decide +kernel
theorem dX12_usedAt_12 : decode cX12_usedAt 12 = .ok (.iaload, 1) := by decide +kernel
theorem dX12_usedAt_13 : decode cX12_usedAt 13 = .ok (.if_icmp .ge 29, 3) := by decide +kernel
theorem dX12_usedAt_16 : decode cX12_usedAt 16 = .ok (.aload_n 0, 1) := by decide +kernel
theorem dX12_usedAt_17 : decode cX12_usedAt 17 = .ok (.getfield 9, 3) := by decide +kernel
theorem dX12_usedAt_20 : decode cX12_usedAt 20 = .ok (.sipush 244, 3) := by decide +kernel
theorem dX12_usedAt_23 : decode cX12_usedAt 23 = .ok (.iload_n 1, 1) := by decide +kernel
theorem dX12_usedAt_24 : decode cX12_usedAt 24 = .ok (.iload_n 3, 1) := by decide +kernel
theorem dX12_usedAt_25 : decode cX12_usedAt 25 = .ok (.invokestatic 61, 3) := by decide +kernel
theorem dX12_usedAt_28 : decode cX12_usedAt 28 = .ok (.iadd, 1) := by decide +kernel
theorem dX12_usedAt_29 : decode cX12_usedAt 29 = .ok (.iaload, 1) := by decide +kernel
theorem dX12_usedAt_30 : decode cX12_usedAt 30 = .ok (.iload_n 2, 1) := by decide +kernel
theorem dX12_usedAt_31 : decode cX12_usedAt 31 = .ok (.if_icmp .ne 5, 3) := by decide +kernel
theorem dX12_usedAt_34 : decode cX12_usedAt 34 = .ok (.iload_n 3, 1) := by decide +kernel
theorem dX12_usedAt_35 : decode cX12_usedAt 35 = .ok (.ireturn, 1) := by decide +kernel
theorem dX12_usedAt_36 : decode cX12_usedAt 36 = .ok (.iinc 3 1, 3) := by decide +kernel
theorem dX12_usedAt_39 : decode cX12_usedAt 39 = .ok (.goto (-37), 3) := by decide +kernel
theorem dX12_usedAt_42 : decode cX12_usedAt 42 = .ok (.iconst (-1), 1) := by decide +kernel
theorem dX12_usedAt_43 : decode cX12_usedAt 43 = .ok (.ireturn, 1) := by decide +kernel
def xX12_usedAt_2   : Nat → Int32 → Int32 → Int32 → j_M → Option (Int32 × j_M)
  | 0, _, _, _, _ => none
  | n + 1, l1, l2, l3, M => gd ((nI 238) + l1) 7460 (oli (M 201 (ix ((nI 238) + l1))) fun v1 => (if v1 ≤ l3 then some ((-1 : Int32), M) else obi (xX12_place l1 l3 M) fun v3 M2 => gd ((nI 244) + v3) 7460 (oli (M2 201 (ix ((nI 244) + v3))) fun v4 => (if v4 = l2 then some (l3, M2) else xX12_usedAt_2  n l1 l2 (l3 + (nI 1)) M2))))
set_option maxRecDepth 20000 in
set_option maxHeartbeats 2000000 in
theorem tX12_usedAt_2    : ∀ (n : Nat) (l1 : Int32) (l2 : Int32) (l3 : Int32) (M : j_M), J (ρ := Int32 × j_M) yX12_usedAt cX12_usedAt 4 (some .int) 1 21 j_ei 2 [(0, .inr (17, 0, 200)), (1, .inl (l1)), (2, .inl (l2)), (3, .inl (l3))] [] M (xX12_usedAt_2  n l1 l2 l3 M) := by
  intro n
  induction n with
  | zero => intros; exact J_none
  | succ n ih =>
    intro l1 l2 l3 M
    rw [xX12_usedAt_2.eq_2]
    refine K_iload_n (q := 3) 3 dX12_usedAt_2 rfl rfl rfl ?_
    refine K_aload_n (q := 4) 0 dX12_usedAt_3 rfl rfl rfl ?_
    refine K_getR (q := 7) (ci := 7) (a2 := 201) 0 dX12_usedAt_4 fRX12_9 rfl rfl (by decide) rfl rfl ?_
    refine K_sipush (q := 10) (v := nI 238) dX12_usedAt_7 rfl rfl ?_
    refine K_iload_n (q := 11) 1 dX12_usedAt_10 rfl rfl rfl ?_
    refine K_iadd (q := 12) dX12_usedAt_11 rfl ?_
    refine K_iald (q := 13) dX12_usedAt_12 rfl (fun v1 => ?_)
    refine K_icmp_ge (q := 16) (tgt := 42) dX12_usedAt_13 rfl ?_ rfl ?_
    · refine K_iconst (q := 43) (v := -1) dX12_usedAt_42 rfl rfl ?_
      exact J_iret dX12_usedAt_43
    · refine K_aload_n (q := 17) 0 dX12_usedAt_16 rfl rfl rfl ?_
      refine K_getR (q := 20) (ci := 7) (a2 := 201) 0 dX12_usedAt_17 fRX12_9 rfl rfl (by decide) rfl rfl ?_
      refine K_sipush (q := 23) (v := nI 244) dX12_usedAt_20 rfl rfl ?_
      refine K_iload_n (q := 24) 1 dX12_usedAt_23 rfl rfl rfl ?_
      refine K_iload_n (q := 25) 3 dX12_usedAt_24 rfl rfl rfl ?_
      refine K_csi (q := 28) [.inl (l1), .inl (l3)] dX12_usedAt_25 cb_X12_place cvRX12_61 rfl (Nat.le_of_ble_eq_true rfl) ⟨by decide, by decide⟩ (Nat.le_of_ble_eq_true rfl) rfl (tX12_place l1 l3 M) rfl (fun v3 M2 => ?_)
      refine K_iadd (q := 29) dX12_usedAt_28 rfl ?_
      refine K_iald (q := 30) dX12_usedAt_29 rfl (fun v4 => ?_)
      refine K_iload_n (q := 31) 2 dX12_usedAt_30 rfl rfl rfl ?_
      refine K_icmp_ne (q := 34) (tgt := 36) dX12_usedAt_31 rfl ?_ rfl ?_
      · refine K_iinc (q := 39) (v := l3 + (nI 1)) (ll' := [(3, .inl (l3 + (nI 1))), (0, .inr (17, 0, 200)), (1, .inl (l1)), (2, .inl (l2))]) 3 dX12_usedAt_36 rfl rfl (by decide) rfl rfl ?_
        refine J_goto (tgt := 2) dX12_usedAt_39 rfl ?_
        exact J_sub [1, 2, 3, 0] (ih l1 l2 (l3 + (nI 1)) M2) rfl
      · refine K_iload_n (q := 35) 3 dX12_usedAt_34 rfl rfl rfl ?_
        exact J_iret dX12_usedAt_35
def xX12_usedAt  (l1 : Int32) (l2 : Int32) (M : j_M) : Option (Int32 × j_M) := xX12_usedAt_2 fu l1 l2 (nI 0) M
set_option maxRecDepth 20000 in
set_option maxHeartbeats 2000000 in
theorem tX12_usedAt  (l1 : Int32) (l2 : Int32) (M : j_M) : J (ρ := Int32 × j_M) yX12_usedAt cX12_usedAt 4 (some .int) 1 21 j_ei 0 [(0, .inr (17, 0, 200)), (1, .inl (l1)), (2, .inl (l2))] [] M (xX12_usedAt  l1 l2 M) := by
  unfold xX12_usedAt
  refine K_iconst (q := 1) (v := nI 0) dX12_usedAt_0 rfl rfl ?_
  refine K_istore_n (q := 2) (ll' := [(3, .inl ((nI 0))), (0, .inr (17, 0, 200)), (1, .inl (l1)), (2, .inl (l2))]) dX12_usedAt_1 rfl (by decide) rfl rfl ?_
  exact J_sub [1, 2, 3, 0] (tX12_usedAt_2 fu l1 l2 (nI 0) M) rfl
theorem dX12_forgets_0 : decode cX12_forgets 0 = .ok (.aload_n 0, 1) := by decide +kernel
theorem dX12_forgets_1 : decode cX12_forgets 1 = .ok (.iload_n 1, 1) := by decide +kernel
theorem dX12_forgets_2 : decode cX12_forgets 2 = .ok (.iload_n 2, 1) := by decide +kernel
theorem dX12_forgets_3 : decode cX12_forgets 3 = .ok (.invokevirtual 98, 3) := by decide +kernel
theorem dX12_forgets_6 : decode cX12_forgets 6 = .ok (.istore_n 3, 1) := by decide +kernel
theorem dX12_forgets_7 : decode cX12_forgets 7 = .ok (.iload_n 3, 1) := by decide +kernel
theorem dX12_forgets_8 : decode cX12_forgets 8 = .ok (.iconst (-1), 1) := by decide +kernel
theorem dX12_forgets_9 : decode cX12_forgets 9 = .ok (.if_icmp .ne 4, 3) := by decide +kernel
theorem dX12_forgets_12 : decode cX12_forgets 12 = .ok (.return_, 1) := by decide +kernel
theorem dX12_forgets_13 : decode cX12_forgets 13 = .ok (.aload_n 0, 1) := by decide +kernel
theorem dX12_forgets_14 : decode cX12_forgets 14 = .ok (.getfield 9, 3) := by decide +kernel
theorem dX12_forgets_17 : decode cX12_forgets 17 = .ok (.sipush 238, 3) := by decide +kernel
theorem dX12_forgets_20 : decode cX12_forgets 20 = .ok (.iload_n 1, 1) := by decide +kernel
theorem dX12_forgets_21 : decode cX12_forgets 21 = .ok (.iadd, 1) := by decide +kernel
theorem dX12_forgets_22 : decode cX12_forgets 22 = .ok (.dup2, 1) := by decide +kernel
theorem dX12_forgets_23 : decode cX12_forgets 23 = .ok (.iaload, 1) := by decide +kernel
theorem dX12_forgets_24 : decode cX12_forgets 24 = .ok (.iconst 1, 1) := by decide +kernel
theorem dX12_forgets_25 : decode cX12_forgets 25 = .ok (.isub, 1) := by decide +kernel
theorem dX12_forgets_26 : decode cX12_forgets 26 = .ok (.iastore, 1) := by decide +kernel
theorem dX12_forgets_27 : decode cX12_forgets 27 = .ok (.iload_n 3, 1) := by decide +kernel
theorem dX12_forgets_28 : decode cX12_forgets 28 = .ok (.istore 4, 2) := by decide +kernel
theorem dX12_forgets_30 : decode cX12_forgets 30 = .ok (.iload 4, 2) := by decide +kernel
theorem dX12_forgets_32 : decode cX12_forgets 32 = .ok (.aload_n 0, 1) := by decide +kernel
theorem dX12_forgets_33 : decode cX12_forgets 33 = .ok (.getfield 9, 3) := by decide +kernel
theorem dX12_forgets_36 : decode cX12_forgets 36 = .ok (.sipush 238, 3) := by decide +kernel
theorem dX12_forgets_39 : decode cX12_forgets 39 = .ok (.iload_n 1, 1) := by decide +kernel
theorem dX12_forgets_40 : decode cX12_forgets 40 = .ok (.iadd, 1) := by decide +kernel
theorem dX12_forgets_41 : decode cX12_forgets 41 = .ok (.iaload, 1) := by decide +kernel
theorem dX12_forgets_42 : decode cX12_forgets 42 = .ok (.if_icmp .ge 41, 3) := by decide +kernel
theorem dX12_forgets_45 : decode cX12_forgets 45 = .ok (.aload_n 0, 1) := by decide +kernel
theorem dX12_forgets_46 : decode cX12_forgets 46 = .ok (.getfield 9, 3) := by decide +kernel
theorem dX12_forgets_49 : decode cX12_forgets 49 = .ok (.sipush 244, 3) := by decide +kernel
theorem dX12_forgets_52 : decode cX12_forgets 52 = .ok (.iload_n 1, 1) := by decide +kernel
theorem dX12_forgets_53 : decode cX12_forgets 53 = .ok (.iload 4, 2) := by decide +kernel
theorem dX12_forgets_55 : decode cX12_forgets 55 = .ok (.invokestatic 61, 3) := by decide +kernel
theorem dX12_forgets_58 : decode cX12_forgets 58 = .ok (.iadd, 1) := by decide +kernel
theorem dX12_forgets_59 : decode cX12_forgets 59 = .ok (.aload_n 0, 1) := by decide +kernel
theorem dX12_forgets_60 : decode cX12_forgets 60 = .ok (.getfield 9, 3) := by decide +kernel
theorem dX12_forgets_63 : decode cX12_forgets 63 = .ok (.sipush 244, 3) := by decide +kernel
theorem dX12_forgets_66 : decode cX12_forgets 66 = .ok (.iload_n 1, 1) := by decide +kernel
theorem dX12_forgets_67 : decode cX12_forgets 67 = .ok (.iload 4, 2) := by decide +kernel
theorem dX12_forgets_69 : decode cX12_forgets 69 = .ok (.iconst 1, 1) := by decide +kernel
theorem dX12_forgets_70 : decode cX12_forgets 70 = .ok (.iadd, 1) := by decide +kernel
theorem dX12_forgets_71 : decode cX12_forgets 71 = .ok (.invokestatic 61, 3) := by decide +kernel
theorem dX12_forgets_74 : decode cX12_forgets 74 = .ok (.iadd, 1) := by decide +kernel
theorem dX12_forgets_75 : decode cX12_forgets 75 = .ok (.iaload, 1) := by decide +kernel
theorem dX12_forgets_76 : decode cX12_forgets 76 = .ok (.iastore, 1) := by decide +kernel
theorem dX12_forgets_77 : decode cX12_forgets 77 = .ok (.iinc 4 1, 3) := by decide +kernel
theorem dX12_forgets_80 : decode cX12_forgets 80 = .ok (.goto (-50), 3) := by decide +kernel
theorem dX12_forgets_83 : decode cX12_forgets 83 = .ok (.aload_n 0, 1) := by decide +kernel
theorem dX12_forgets_84 : decode cX12_forgets 84 = .ok (.getfield 9, 3) := by decide +kernel
theorem dX12_forgets_87 : decode cX12_forgets 87 = .ok (.sipush 244, 3) := by decide +kernel
theorem dX12_forgets_90 : decode cX12_forgets 90 = .ok (.iload_n 1, 1) := by decide +kernel
theorem dX12_forgets_91 : decode cX12_forgets 91 = .ok (.aload_n 0, 1) := by decide +kernel
theorem dX12_forgets_92 : decode cX12_forgets 92 = .ok (.getfield 9, 3) := by decide +kernel
theorem dX12_forgets_95 : decode cX12_forgets 95 = .ok (.sipush 238, 3) := by decide +kernel
theorem dX12_forgets_98 : decode cX12_forgets 98 = .ok (.iload_n 1, 1) := by decide +kernel
theorem dX12_forgets_99 : decode cX12_forgets 99 = .ok (.iadd, 1) := by decide +kernel
theorem dX12_forgets_100 : decode cX12_forgets 100 = .ok (.iaload, 1) := by decide +kernel
theorem dX12_forgets_101 : decode cX12_forgets 101 = .ok (.invokestatic 61, 3) := by decide +kernel
theorem dX12_forgets_104 : decode cX12_forgets 104 = .ok (.iadd, 1) := by decide +kernel
theorem dX12_forgets_105 : decode cX12_forgets 105 = .ok (.iconst 0, 1) := by decide +kernel
theorem dX12_forgets_106 : decode cX12_forgets 106 = .ok (.iastore, 1) := by decide +kernel
theorem dX12_forgets_107 : decode cX12_forgets 107 = .ok (.return_, 1) := by decide +kernel
def xX12_forgets_30   : Nat → Int32 → Int32 → j_M → Option (j_M)
  | 0, _, _, _ => none
  | n + 1, l1, l4, M => gd ((nI 238) + l1) 7460 (oli (M 201 (ix ((nI 238) + l1))) fun v1 => (if v1 ≤ l4 then gd ((nI 238) + l1) 7460 (oli (M 201 (ix ((nI 238) + l1))) fun v2 => obi (xX12_place l1 v2 M) fun v4 M3 => gd ((nI 244) + v4) 7460 (oml (mw M3 201 (ix ((nI 244) + v4)) (nI 0)) fun M5 => some M5)) else obi (xX12_place l1 l4 M) fun v7 M6 => obi (xX12_place l1 (l4 + (nI 1)) M6) fun v9 M8 => gd ((nI 244) + v9) 7460 (oli (M8 201 (ix ((nI 244) + v9))) fun v10 => gd ((nI 244) + v7) 7460 (oml (mw M8 201 (ix ((nI 244) + v7)) v10) fun M11 => xX12_forgets_30  n l1 (l4 + (nI 1)) M11))))
set_option maxRecDepth 20000 in
set_option maxHeartbeats 2000000 in
theorem tX12_forgets_30    : ∀ (n : Nat) (l1 : Int32) (l4 : Int32) (M : j_M), J (ρ := j_M) yX12_forgets cX12_forgets 5 none 2 44 j_ev 30 [(0, .inr (17, 0, 200)), (1, .inl (l1)), (4, .inl (l4))] [] M (xX12_forgets_30  n l1 l4 M) := by
  intro n
  induction n with
  | zero => intros; exact J_none
  | succ n ih =>
    intro l1 l4 M
    rw [xX12_forgets_30.eq_2]
    refine K_iload (q := 32) 2 dX12_forgets_30 rfl rfl ?_
    refine K_aload_n (q := 33) 0 dX12_forgets_32 rfl rfl rfl ?_
    refine K_getR (q := 36) (ci := 7) (a2 := 201) 0 dX12_forgets_33 fRX12_9 rfl rfl (by decide) rfl rfl ?_
    refine K_sipush (q := 39) (v := nI 238) dX12_forgets_36 rfl rfl ?_
    refine K_iload_n (q := 40) 1 dX12_forgets_39 rfl rfl rfl ?_
    refine K_iadd (q := 41) dX12_forgets_40 rfl ?_
    refine K_iald (q := 42) dX12_forgets_41 rfl (fun v1 => ?_)
    refine K_icmp_ge (q := 45) (tgt := 83) dX12_forgets_42 rfl ?_ rfl ?_
    · refine K_aload_n (q := 84) 0 dX12_forgets_83 rfl rfl rfl ?_
      refine K_getR (q := 87) (ci := 7) (a2 := 201) 0 dX12_forgets_84 fRX12_9 rfl rfl (by decide) rfl rfl ?_
      refine K_sipush (q := 90) (v := nI 244) dX12_forgets_87 rfl rfl ?_
      refine K_iload_n (q := 91) 1 dX12_forgets_90 rfl rfl rfl ?_
      refine K_aload_n (q := 92) 0 dX12_forgets_91 rfl rfl rfl ?_
      refine K_getR (q := 95) (ci := 7) (a2 := 201) 0 dX12_forgets_92 fRX12_9 rfl rfl (by decide) rfl rfl ?_
      refine K_sipush (q := 98) (v := nI 238) dX12_forgets_95 rfl rfl ?_
      refine K_iload_n (q := 99) 1 dX12_forgets_98 rfl rfl rfl ?_
      refine K_iadd (q := 100) dX12_forgets_99 rfl ?_
      refine K_iald (q := 101) dX12_forgets_100 rfl (fun v2 => ?_)
      refine K_csi (q := 104) [.inl (l1), .inl (v2)] dX12_forgets_101 cb_X12_place cvRX12_61 rfl (Nat.le_of_ble_eq_true rfl) ⟨by decide, by decide⟩ (Nat.le_of_ble_eq_true rfl) rfl (tX12_place l1 v2 M) rfl (fun v4 M3 => ?_)
      refine K_iadd (q := 105) dX12_forgets_104 rfl ?_
      refine K_iconst (q := 106) (v := nI 0) dX12_forgets_105 rfl rfl ?_
      refine K_iast (q := 107) dX12_forgets_106 rfl (fun M5 => ?_)
      exact J_vret dX12_forgets_107
    · refine K_aload_n (q := 46) 0 dX12_forgets_45 rfl rfl rfl ?_
      refine K_getR (q := 49) (ci := 7) (a2 := 201) 0 dX12_forgets_46 fRX12_9 rfl rfl (by decide) rfl rfl ?_
      refine K_sipush (q := 52) (v := nI 244) dX12_forgets_49 rfl rfl ?_
      refine K_iload_n (q := 53) 1 dX12_forgets_52 rfl rfl rfl ?_
      refine K_iload (q := 55) 2 dX12_forgets_53 rfl rfl ?_
      refine K_csi (q := 58) [.inl (l1), .inl (l4)] dX12_forgets_55 cb_X12_place cvRX12_61 rfl (Nat.le_of_ble_eq_true rfl) ⟨by decide, by decide⟩ (Nat.le_of_ble_eq_true rfl) rfl (tX12_place l1 l4 M) rfl (fun v7 M6 => ?_)
      refine K_iadd (q := 59) dX12_forgets_58 rfl ?_
      refine K_aload_n (q := 60) 0 dX12_forgets_59 rfl rfl rfl ?_
      refine K_getR (q := 63) (ci := 7) (a2 := 201) 0 dX12_forgets_60 fRX12_9 rfl rfl (by decide) rfl rfl ?_
      refine K_sipush (q := 66) (v := nI 244) dX12_forgets_63 rfl rfl ?_
      refine K_iload_n (q := 67) 1 dX12_forgets_66 rfl rfl rfl ?_
      refine K_iload (q := 69) 2 dX12_forgets_67 rfl rfl ?_
      refine K_iconst (q := 70) (v := nI 1) dX12_forgets_69 rfl rfl ?_
      refine K_iadd (q := 71) dX12_forgets_70 rfl ?_
      refine K_csi (q := 74) [.inl (l1), .inl (l4 + (nI 1))] dX12_forgets_71 cb_X12_place cvRX12_61 rfl (Nat.le_of_ble_eq_true rfl) ⟨by decide, by decide⟩ (Nat.le_of_ble_eq_true rfl) rfl (tX12_place l1 (l4 + (nI 1)) M6) rfl (fun v9 M8 => ?_)
      refine K_iadd (q := 75) dX12_forgets_74 rfl ?_
      refine K_iald (q := 76) dX12_forgets_75 rfl (fun v10 => ?_)
      refine K_iast (q := 77) dX12_forgets_76 rfl (fun M11 => ?_)
      refine K_iinc (q := 80) (v := l4 + (nI 1)) (ll' := [(4, .inl (l4 + (nI 1))), (0, .inr (17, 0, 200)), (1, .inl (l1))]) 2 dX12_forgets_77 rfl rfl (by decide) rfl rfl ?_
      refine J_goto (tgt := 30) dX12_forgets_80 rfl ?_
      exact J_sub [1, 2, 0] (ih l1 (l4 + (nI 1)) M11) rfl
def xX12_forgets  (l1 : Int32) (l2 : Int32) (M : j_M) : Option (j_M) := obi (xX12_usedAt l1 l2 M) fun v2 M1 => (if v2 = (-1 : Int32) then some M1 else gd ((nI 238) + l1) 7460 (oli (M1 201 (ix ((nI 238) + l1))) fun v3 => gd ((nI 238) + l1) 7460 (oml (mw M1 201 (ix ((nI 238) + l1)) (v3 - (nI 1))) fun M4 => xX12_forgets_30 fu l1 v2 M4)))
set_option maxRecDepth 20000 in
set_option maxHeartbeats 2000000 in
theorem tX12_forgets  (l1 : Int32) (l2 : Int32) (M : j_M) : J (ρ := j_M) yX12_forgets cX12_forgets 5 none 2 44 j_ev 0 [(0, .inr (17, 0, 200)), (1, .inl (l1)), (2, .inl (l2))] [] M (xX12_forgets  l1 l2 M) := by
  unfold xX12_forgets
  refine K_aload_n (q := 1) 0 dX12_forgets_0 rfl rfl rfl ?_
  refine K_iload_n (q := 2) 1 dX12_forgets_1 rfl rfl rfl ?_
  refine K_iload_n (q := 3) 2 dX12_forgets_2 rfl rfl rfl ?_
  refine K_cvi (q := 6) [.inl (l1), .inl (l2)] dX12_forgets_3 cb_X12_usedAt cvRX12_98 rc_7 (show (17 : Nat) ≠ 0 by decide) rfl (Nat.le_of_ble_eq_true rfl) ⟨by decide, by decide⟩ (Nat.le_of_ble_eq_true rfl) rfl (tX12_usedAt l1 l2 M) rfl (fun v2 M1 => ?_)
  refine K_istore_n (q := 7) (ll' := [(3, .inl (v2)), (0, .inr (17, 0, 200)), (1, .inl (l1)), (2, .inl (l2))]) dX12_forgets_6 rfl (by decide) rfl rfl ?_
  refine K_iload_n (q := 8) 0 dX12_forgets_7 rfl rfl rfl ?_
  refine K_iconst (q := 9) (v := -1) dX12_forgets_8 rfl rfl ?_
  refine K_icmp_ne (q := 12) (tgt := 13) dX12_forgets_9 rfl ?_ rfl ?_
  · refine K_aload_n (q := 14) 1 dX12_forgets_13 rfl rfl rfl ?_
    refine K_getR (q := 17) (ci := 7) (a2 := 201) 0 dX12_forgets_14 fRX12_9 rfl rfl (by decide) rfl rfl ?_
    refine K_sipush (q := 20) (v := nI 238) dX12_forgets_17 rfl rfl ?_
    refine K_iload_n (q := 21) 2 dX12_forgets_20 rfl rfl rfl ?_
    refine K_iadd (q := 22) dX12_forgets_21 rfl ?_
    refine K_dup2 (q := 23) dX12_forgets_22 rfl ?_
    refine K_iald (q := 24) dX12_forgets_23 rfl (fun v3 => ?_)
    refine K_iconst (q := 25) (v := nI 1) dX12_forgets_24 rfl rfl ?_
    refine K_isub (q := 26) dX12_forgets_25 rfl ?_
    refine K_iast (q := 27) dX12_forgets_26 rfl (fun M4 => ?_)
    refine K_iload_n (q := 28) 0 dX12_forgets_27 rfl rfl rfl ?_
    refine K_istore (q := 30) (ll' := [(4, .inl (v2)), (3, .inl (v2)), (0, .inr (17, 0, 200)), (1, .inl (l1)), (2, .inl (l2))]) dX12_forgets_28 (by decide) rfl rfl ?_
    exact J_sub [2, 3, 0] (tX12_forgets_30 fu l1 v2 M4) rfl
  · exact J_vret dX12_forgets_12
theorem dX12_uses_0 : decode cX12_uses 0 = .ok (.aload_n 0, 1) := by decide +kernel
theorem dX12_uses_1 : decode cX12_uses 1 = .ok (.iload_n 1, 1) := by decide +kernel
theorem dX12_uses_2 : decode cX12_uses 2 = .ok (.iload_n 2, 1) := by decide +kernel
theorem dX12_uses_3 : decode cX12_uses 3 = .ok (.invokevirtual 101, 3) := by decide +kernel
theorem dX12_uses_6 : decode cX12_uses 6 = .ok (.aload_n 0, 1) := by decide +kernel
theorem dX12_uses_7 : decode cX12_uses 7 = .ok (.getfield 9, 3) := by decide +kernel
theorem dX12_uses_10 : decode cX12_uses 10 = .ok (.sipush 244, 3) := by decide +kernel
theorem dX12_uses_13 : decode cX12_uses 13 = .ok (.iload_n 1, 1) := by decide +kernel
theorem dX12_uses_14 : decode cX12_uses 14 = .ok (.aload_n 0, 1) := by decide +kernel
theorem dX12_uses_15 : decode cX12_uses 15 = .ok (.getfield 9, 3) := by decide +kernel
theorem dX12_uses_18 : decode cX12_uses 18 = .ok (.sipush 238, 3) := by decide +kernel
theorem dX12_uses_21 : decode cX12_uses 21 = .ok (.iload_n 1, 1) := by decide +kernel
theorem dX12_uses_22 : decode cX12_uses 22 = .ok (.iadd, 1) := by decide +kernel
theorem dX12_uses_23 : decode cX12_uses 23 = .ok (.iaload, 1) := by decide +kernel
theorem dX12_uses_24 : decode cX12_uses 24 = .ok (.invokestatic 61, 3) := by decide +kernel
theorem dX12_uses_27 : decode cX12_uses 27 = .ok (.iadd, 1) := by decide +kernel
theorem dX12_uses_28 : decode cX12_uses 28 = .ok (.iload_n 2, 1) := by decide +kernel
theorem dX12_uses_29 : decode cX12_uses 29 = .ok (.iastore, 1) := by decide +kernel
theorem dX12_uses_30 : decode cX12_uses 30 = .ok (.aload_n 0, 1) := by decide +kernel
theorem dX12_uses_31 : decode cX12_uses 31 = .ok (.getfield 9, 3) := by decide +kernel
theorem dX12_uses_34 : decode cX12_uses 34 = .ok (.sipush 238, 3) := by decide +kernel
theorem dX12_uses_37 : decode cX12_uses 37 = .ok (.iload_n 1, 1) := by decide +kernel
theorem dX12_uses_38 : decode cX12_uses 38 = .ok (.iadd, 1) := by decide +kernel
theorem dX12_uses_39 : decode cX12_uses 39 = .ok (.dup2, 1) := by decide +kernel
theorem dX12_uses_40 : decode cX12_uses 40 = .ok (.iaload, 1) := by decide +kernel
theorem dX12_uses_41 : decode cX12_uses 41 = .ok (.iconst 1, 1) := by decide +kernel
theorem dX12_uses_42 : decode cX12_uses 42 = .ok (.iadd, 1) := by decide +kernel
theorem dX12_uses_43 : decode cX12_uses 43 = .ok (.iastore, 1) := by decide +kernel
theorem dX12_uses_44 : decode cX12_uses 44 = .ok (.return_, 1) := by decide +kernel
def xX12_uses  (l1 : Int32) (l2 : Int32) (M : j_M) : Option (j_M) := obv (xX12_forgets l1 l2 M) fun M1 => gd ((nI 238) + l1) 7460 (oli (M1 201 (ix ((nI 238) + l1))) fun v2 => obi (xX12_place l1 v2 M1) fun v4 M3 => gd ((nI 244) + v4) 7460 (oml (mw M3 201 (ix ((nI 244) + v4)) l2) fun M5 => gd ((nI 238) + l1) 7460 (oli (M5 201 (ix ((nI 238) + l1))) fun v6 => gd ((nI 238) + l1) 7460 (oml (mw M5 201 (ix ((nI 238) + l1)) (v6 + (nI 1))) fun M7 => some M7))))
set_option maxRecDepth 20000 in
set_option maxHeartbeats 2000000 in
theorem tX12_uses  (l1 : Int32) (l2 : Int32) (M : j_M) : J (ρ := j_M) yX12_uses cX12_uses 3 none 3 68 j_ev 0 [(0, .inr (17, 0, 200)), (1, .inl (l1)), (2, .inl (l2))] [] M (xX12_uses  l1 l2 M) := by
  unfold xX12_uses
  refine K_aload_n (q := 1) 0 dX12_uses_0 rfl rfl rfl ?_
  refine K_iload_n (q := 2) 1 dX12_uses_1 rfl rfl rfl ?_
  refine K_iload_n (q := 3) 2 dX12_uses_2 rfl rfl rfl ?_
  refine K_cvv (q := 6) [.inl (l1), .inl (l2)] dX12_uses_3 cb_X12_forgets cvRX12_101 rc_7 (show (17 : Nat) ≠ 0 by decide) rfl (Nat.le_of_ble_eq_true rfl) ⟨by decide, by decide⟩ (Nat.le_of_ble_eq_true rfl) rfl (tX12_forgets l1 l2 M) rfl (fun M1 => ?_)
  refine K_aload_n (q := 7) 0 dX12_uses_6 rfl rfl rfl ?_
  refine K_getR (q := 10) (ci := 7) (a2 := 201) 0 dX12_uses_7 fRX12_9 rfl rfl (by decide) rfl rfl ?_
  refine K_sipush (q := 13) (v := nI 244) dX12_uses_10 rfl rfl ?_
  refine K_iload_n (q := 14) 1 dX12_uses_13 rfl rfl rfl ?_
  refine K_aload_n (q := 15) 0 dX12_uses_14 rfl rfl rfl ?_
  refine K_getR (q := 18) (ci := 7) (a2 := 201) 0 dX12_uses_15 fRX12_9 rfl rfl (by decide) rfl rfl ?_
  refine K_sipush (q := 21) (v := nI 238) dX12_uses_18 rfl rfl ?_
  refine K_iload_n (q := 22) 1 dX12_uses_21 rfl rfl rfl ?_
  refine K_iadd (q := 23) dX12_uses_22 rfl ?_
  refine K_iald (q := 24) dX12_uses_23 rfl (fun v2 => ?_)
  refine K_csi (q := 27) [.inl (l1), .inl (v2)] dX12_uses_24 cb_X12_place cvRX12_61 rfl (Nat.le_of_ble_eq_true rfl) ⟨by decide, by decide⟩ (Nat.le_of_ble_eq_true rfl) rfl (tX12_place l1 v2 M1) rfl (fun v4 M3 => ?_)
  refine K_iadd (q := 28) dX12_uses_27 rfl ?_
  refine K_iload_n (q := 29) 2 dX12_uses_28 rfl rfl rfl ?_
  refine K_iast (q := 30) dX12_uses_29 rfl (fun M5 => ?_)
  refine K_aload_n (q := 31) 0 dX12_uses_30 rfl rfl rfl ?_
  refine K_getR (q := 34) (ci := 7) (a2 := 201) 0 dX12_uses_31 fRX12_9 rfl rfl (by decide) rfl rfl ?_
  refine K_sipush (q := 37) (v := nI 238) dX12_uses_34 rfl rfl ?_
  refine K_iload_n (q := 38) 1 dX12_uses_37 rfl rfl rfl ?_
  refine K_iadd (q := 39) dX12_uses_38 rfl ?_
  refine K_dup2 (q := 40) dX12_uses_39 rfl ?_
  refine K_iald (q := 41) dX12_uses_40 rfl (fun v6 => ?_)
  refine K_iconst (q := 42) (v := nI 1) dX12_uses_41 rfl rfl ?_
  refine K_iadd (q := 43) dX12_uses_42 rfl ?_
  refine K_iast (q := 44) dX12_uses_43 rfl (fun M7 => ?_)
  exact J_vret dX12_uses_44
theorem dX12_does_0 : decode cX12_does 0 = .ok (.iload_n 1, 1) := by decide +kernel
theorem dX12_does_1 : decode cX12_does 1 = .ok (.iload_n 2, 1) := by decide +kernel
theorem dX12_does_2 : decode cX12_does 2 = .ok (.invokestatic 61, 3) := by decide +kernel
theorem dX12_does_5 : decode cX12_does 5 = .ok (.istore 5, 2) := by decide +kernel
theorem dX12_does_7 : decode cX12_does 7 = .ok (.iload_n 3, 1) := by decide +kernel
theorem dX12_does_8 : decode cX12_does 8 = .ok (.iconst 2, 1) := by decide +kernel
theorem dX12_does_9 : decode cX12_does 9 = .ok (.if_icmp .eq 19, 3) := by decide +kernel
theorem dX12_does_12 : decode cX12_does 12 = .ok (.aload_n 0, 1) := by decide +kernel
theorem dX12_does_13 : decode cX12_does 13 = .ok (.iload_n 1, 1) := by decide +kernel
theorem dX12_does_14 : decode cX12_does 14 = .ok (.aload_n 0, 1) := by decide +kernel
theorem dX12_does_15 : decode cX12_does 15 = .ok (.getfield 9, 3) := by decide +kernel
theorem dX12_does_18 : decode cX12_does 18 = .ok (.sipush 182, 3) := by decide +kernel
theorem dX12_does_21 : decode cX12_does 21 = .ok (.iload 5, 2) := by decide +kernel
theorem dX12_does_23 : decode cX12_does 23 = .ok (.iadd, 1) := by decide +kernel
theorem dX12_does_24 : decode cX12_does 24 = .ok (.iaload, 1) := by decide +kernel
theorem dX12_does_25 : decode cX12_does 25 = .ok (.invokevirtual 131, 3) := by decide +kernel
theorem dX12_does_28 : decode cX12_does 28 = .ok (.iload_n 3, 1) := by decide +kernel
theorem dX12_does_29 : decode cX12_does 29 = .ok (.iconst 2, 1) := by decide +kernel
theorem dX12_does_30 : decode cX12_does 30 = .ok (.if_icmp .ne 16, 3) := by decide +kernel
theorem dX12_does_33 : decode cX12_does 33 = .ok (.aload_n 0, 1) := by decide +kernel
theorem dX12_does_34 : decode cX12_does 34 = .ok (.getfield 9, 3) := by decide +kernel
theorem dX12_does_37 : decode cX12_does 37 = .ok (.sipush 182, 3) := by decide +kernel
theorem dX12_does_40 : decode cX12_does 40 = .ok (.iload 5, 2) := by decide +kernel
theorem dX12_does_42 : decode cX12_does 42 = .ok (.iadd, 1) := by decide +kernel
theorem dX12_does_43 : decode cX12_does 43 = .ok (.iload 4, 2) := by decide +kernel
theorem dX12_does_45 : decode cX12_does 45 = .ok (.iastore, 1) := by decide +kernel
theorem dX12_does_46 : decode cX12_does 46 = .ok (.iload_n 3, 1) := by decide +kernel
theorem dX12_does_47 : decode cX12_does 47 = .ok (.iconst 3, 1) := by decide +kernel
theorem dX12_does_48 : decode cX12_does 48 = .ok (.if_icmp .ne 32, 3) := by decide +kernel
theorem dX12_does_51 : decode cX12_does 51 = .ok (.aload_n 0, 1) := by decide +kernel
theorem dX12_does_52 : decode cX12_does 52 = .ok (.getfield 9, 3) := by decide +kernel
theorem dX12_does_55 : decode cX12_does 55 = .ok (.sipush 182, 3) := by decide +kernel
theorem dX12_does_58 : decode cX12_does 58 = .ok (.iload 5, 2) := by decide +kernel
theorem dX12_does_60 : decode cX12_does 60 = .ok (.iadd, 1) := by decide +kernel
theorem dX12_does_61 : decode cX12_does 61 = .ok (.aload_n 0, 1) := by decide +kernel
theorem dX12_does_62 : decode cX12_does 62 = .ok (.getfield 9, 3) := by decide +kernel
theorem dX12_does_65 : decode cX12_does 65 = .ok (.sipush 182, 3) := by decide +kernel
theorem dX12_does_68 : decode cX12_does 68 = .ok (.iload 5, 2) := by decide +kernel
theorem dX12_does_70 : decode cX12_does 70 = .ok (.iadd, 1) := by decide +kernel
theorem dX12_does_71 : decode cX12_does 71 = .ok (.iaload, 1) := by decide +kernel
theorem dX12_does_72 : decode cX12_does 72 = .ok (.iload 4, 2) := by decide +kernel
theorem dX12_does_74 : decode cX12_does 74 = .ok (.iadd, 1) := by decide +kernel
theorem dX12_does_75 : decode cX12_does 75 = .ok (.sipush 10000, 3) := by decide +kernel
theorem dX12_does_78 : decode cX12_does 78 = .ok (.irem, 1) := by decide +kernel
theorem dX12_does_79 : decode cX12_does 79 = .ok (.iastore, 1) := by decide +kernel
theorem dX12_does_80 : decode cX12_does 80 = .ok (.aload_n 0, 1) := by decide +kernel
theorem dX12_does_81 : decode cX12_does 81 = .ok (.iload_n 1, 1) := by decide +kernel
theorem dX12_does_82 : decode cX12_does 82 = .ok (.iload_n 2, 1) := by decide +kernel
theorem dX12_does_83 : decode cX12_does 83 = .ok (.invokevirtual 134, 3) := by decide +kernel
theorem dX12_does_86 : decode cX12_does 86 = .ok (.return_, 1) := by decide +kernel
def xX12_does_80   (l1 : Int32) (l2 : Int32) (M : j_M) : Option (j_M) := obv (xX12_uses l1 l2 M) fun M1 => some M1
set_option maxRecDepth 20000 in
set_option maxHeartbeats 2000000 in
theorem tX12_does_80    (l1 : Int32) (l2 : Int32) (M : j_M) : J (ρ := j_M) yX12_does cX12_does 6 none 4 90 j_ev 80 [(0, .inr (17, 0, 200)), (1, .inl (l1)), (2, .inl (l2))] [] M (xX12_does_80  l1 l2 M) := by
  unfold xX12_does_80
  refine K_aload_n (q := 81) 0 dX12_does_80 rfl rfl rfl ?_
  refine K_iload_n (q := 82) 1 dX12_does_81 rfl rfl rfl ?_
  refine K_iload_n (q := 83) 2 dX12_does_82 rfl rfl rfl ?_
  refine K_cvv (q := 86) [.inl (l1), .inl (l2)] dX12_does_83 cb_X12_uses cvRX12_134 rc_7 (show (17 : Nat) ≠ 0 by decide) rfl (Nat.le_of_ble_eq_true rfl) ⟨by decide, by decide⟩ (Nat.le_of_ble_eq_true rfl) rfl (tX12_uses l1 l2 M) rfl (fun M1 => ?_)
  exact J_vret dX12_does_86
def xX12_does_46   (l1 : Int32) (l2 : Int32) (l3 : Int32) (l4 : Int32) (l5 : Int32) (M : j_M) : Option (j_M) := (if l3 = (nI 3) then gd ((nI 182) + l5) 7460 (oli (M 201 (ix ((nI 182) + l5))) fun v1 => gn (nI 10000) (gd ((nI 182) + l5) 7460 (oml (mw M 201 (ix ((nI 182) + l5)) ((v1 + l4) - (v1 + l4) / (nI 10000) * (nI 10000))) fun M2 => xX12_does_80  l1 l2 M2))) else xX12_does_80  l1 l2 M)
set_option maxRecDepth 20000 in
set_option maxHeartbeats 2000000 in
theorem tX12_does_46    (l1 : Int32) (l2 : Int32) (l3 : Int32) (l4 : Int32) (l5 : Int32) (M : j_M) : J (ρ := j_M) yX12_does cX12_does 6 none 4 90 j_ev 46 [(0, .inr (17, 0, 200)), (1, .inl (l1)), (2, .inl (l2)), (3, .inl (l3)), (4, .inl (l4)), (5, .inl (l5))] [] M (xX12_does_46  l1 l2 l3 l4 l5 M) := by
  unfold xX12_does_46
  refine K_iload_n (q := 47) 3 dX12_does_46 rfl rfl rfl ?_
  refine K_iconst (q := 48) (v := nI 3) dX12_does_47 rfl rfl ?_
  refine K_icmp_ne (q := 51) (tgt := 80) dX12_does_48 rfl ?_ rfl ?_
  · exact J_sub [0, 1, 2] (tX12_does_80  l1 l2 M) rfl
  · refine K_aload_n (q := 52) 0 dX12_does_51 rfl rfl rfl ?_
    refine K_getR (q := 55) (ci := 7) (a2 := 201) 0 dX12_does_52 fRX12_9 rfl rfl (by decide) rfl rfl ?_
    refine K_sipush (q := 58) (v := nI 182) dX12_does_55 rfl rfl ?_
    refine K_iload (q := 60) 5 dX12_does_58 rfl rfl ?_
    refine K_iadd (q := 61) dX12_does_60 rfl ?_
    refine K_aload_n (q := 62) 0 dX12_does_61 rfl rfl rfl ?_
    refine K_getR (q := 65) (ci := 7) (a2 := 201) 0 dX12_does_62 fRX12_9 rfl rfl (by decide) rfl rfl ?_
    refine K_sipush (q := 68) (v := nI 182) dX12_does_65 rfl rfl ?_
    refine K_iload (q := 70) 5 dX12_does_68 rfl rfl ?_
    refine K_iadd (q := 71) dX12_does_70 rfl ?_
    refine K_iald (q := 72) dX12_does_71 rfl (fun v1 => ?_)
    refine K_iload (q := 74) 4 dX12_does_72 rfl rfl ?_
    refine K_iadd (q := 75) dX12_does_74 rfl ?_
    refine K_sipush (q := 78) (v := nI 10000) dX12_does_75 rfl rfl ?_
    refine K_irem (q := 79) dX12_does_78 rfl ?_
    refine K_iast (q := 80) dX12_does_79 rfl (fun M2 => ?_)
    exact J_sub [0, 1, 2] (tX12_does_80  l1 l2 M2) rfl
def xX12_does_28   (l1 : Int32) (l2 : Int32) (l3 : Int32) (l4 : Int32) (l5 : Int32) (M : j_M) : Option (j_M) := (if l3 = (nI 2) then gd ((nI 182) + l5) 7460 (oml (mw M 201 (ix ((nI 182) + l5)) l4) fun M1 => xX12_does_46  l1 l2 l3 l4 l5 M1) else xX12_does_46  l1 l2 l3 l4 l5 M)
set_option maxRecDepth 20000 in
set_option maxHeartbeats 2000000 in
theorem tX12_does_28    (l1 : Int32) (l2 : Int32) (l3 : Int32) (l4 : Int32) (l5 : Int32) (M : j_M) : J (ρ := j_M) yX12_does cX12_does 6 none 4 90 j_ev 28 [(0, .inr (17, 0, 200)), (1, .inl (l1)), (2, .inl (l2)), (3, .inl (l3)), (4, .inl (l4)), (5, .inl (l5))] [] M (xX12_does_28  l1 l2 l3 l4 l5 M) := by
  unfold xX12_does_28
  refine K_iload_n (q := 29) 3 dX12_does_28 rfl rfl rfl ?_
  refine K_iconst (q := 30) (v := nI 2) dX12_does_29 rfl rfl ?_
  refine K_icmp_ne (q := 33) (tgt := 46) dX12_does_30 rfl ?_ rfl ?_
  · exact J_sub [0, 1, 2, 3, 4, 5] (tX12_does_46  l1 l2 l3 l4 l5 M) rfl
  · refine K_aload_n (q := 34) 0 dX12_does_33 rfl rfl rfl ?_
    refine K_getR (q := 37) (ci := 7) (a2 := 201) 0 dX12_does_34 fRX12_9 rfl rfl (by decide) rfl rfl ?_
    refine K_sipush (q := 40) (v := nI 182) dX12_does_37 rfl rfl ?_
    refine K_iload (q := 42) 5 dX12_does_40 rfl rfl ?_
    refine K_iadd (q := 43) dX12_does_42 rfl ?_
    refine K_iload (q := 45) 4 dX12_does_43 rfl rfl ?_
    refine K_iast (q := 46) dX12_does_45 rfl (fun M1 => ?_)
    exact J_sub [0, 1, 2, 3, 4, 5] (tX12_does_46  l1 l2 l3 l4 l5 M1) rfl
def xX12_does  (l1 : Int32) (l2 : Int32) (l3 : Int32) (l4 : Int32) (M : j_M) : Option (j_M) := obi (xX12_place l1 l2 M) fun v2 M1 => (if l3 = (nI 2) then xX12_does_28  l1 l2 l3 l4 v2 M1 else gd ((nI 182) + v2) 7460 (oli (M1 201 (ix ((nI 182) + v2))) fun v3 => obv (xX12_sees l1 v3 M1) fun M4 => xX12_does_28  l1 l2 l3 l4 v2 M4))
set_option maxRecDepth 20000 in
set_option maxHeartbeats 2000000 in
theorem tX12_does  (l1 : Int32) (l2 : Int32) (l3 : Int32) (l4 : Int32) (M : j_M) : J (ρ := j_M) yX12_does cX12_does 6 none 4 90 j_ev 0 [(0, .inr (17, 0, 200)), (1, .inl (l1)), (2, .inl (l2)), (3, .inl (l3)), (4, .inl (l4))] [] M (xX12_does  l1 l2 l3 l4 M) := by
  unfold xX12_does
  refine K_iload_n (q := 1) 1 dX12_does_0 rfl rfl rfl ?_
  refine K_iload_n (q := 2) 2 dX12_does_1 rfl rfl rfl ?_
  refine K_csi (q := 5) [.inl (l1), .inl (l2)] dX12_does_2 cb_X12_place cvRX12_61 rfl (Nat.le_of_ble_eq_true rfl) ⟨by decide, by decide⟩ (Nat.le_of_ble_eq_true rfl) rfl (tX12_place l1 l2 M) rfl (fun v2 M1 => ?_)
  refine K_istore (q := 7) (ll' := [(5, .inl (v2)), (0, .inr (17, 0, 200)), (1, .inl (l1)), (2, .inl (l2)), (3, .inl (l3)), (4, .inl (l4))]) dX12_does_5 (by decide) rfl rfl ?_
  refine K_iload_n (q := 8) 4 dX12_does_7 rfl rfl rfl ?_
  refine K_iconst (q := 9) (v := nI 2) dX12_does_8 rfl rfl ?_
  refine K_icmp_eq (q := 12) (tgt := 28) dX12_does_9 rfl ?_ rfl ?_
  · exact J_sub [1, 2, 3, 4, 5, 0] (tX12_does_28  l1 l2 l3 l4 v2 M1) rfl
  · refine K_aload_n (q := 13) 1 dX12_does_12 rfl rfl rfl ?_
    refine K_iload_n (q := 14) 2 dX12_does_13 rfl rfl rfl ?_
    refine K_aload_n (q := 15) 1 dX12_does_14 rfl rfl rfl ?_
    refine K_getR (q := 18) (ci := 7) (a2 := 201) 0 dX12_does_15 fRX12_9 rfl rfl (by decide) rfl rfl ?_
    refine K_sipush (q := 21) (v := nI 182) dX12_does_18 rfl rfl ?_
    refine K_iload (q := 23) 0 dX12_does_21 rfl rfl ?_
    refine K_iadd (q := 24) dX12_does_23 rfl ?_
    refine K_iald (q := 25) dX12_does_24 rfl (fun v3 => ?_)
    refine K_cvv (q := 28) [.inl (l1), .inl (v3)] dX12_does_25 cb_X12_sees cvRX12_131 rc_7 (show (17 : Nat) ≠ 0 by decide) rfl (Nat.le_of_ble_eq_true rfl) ⟨by decide, by decide⟩ (Nat.le_of_ble_eq_true rfl) rfl (tX12_sees l1 v3 M1) rfl (fun M4 => ?_)
    exact J_sub [1, 2, 3, 4, 5, 0] (tX12_does_28  l1 l2 l3 l4 v2 M4) rfl
theorem dX12_isHit_0 : decode cX12_isHit 0 = .ok (.iload_n 1, 1) := by decide +kernel
theorem dX12_isHit_1 : decode cX12_isHit 1 = .ok (.iload_n 2, 1) := by decide +kernel
theorem dX12_isHit_2 : decode cX12_isHit 2 = .ok (.invokestatic 61, 3) := by decide +kernel
theorem dX12_isHit_5 : decode cX12_isHit 5 = .ok (.istore 4, 2) := by decide +kernel
theorem dX12_isHit_7 : decode cX12_isHit 7 = .ok (.aload_n 0, 1) := by decide +kernel
theorem dX12_isHit_8 : decode cX12_isHit 8 = .ok (.getfield 9, 3) := by decide +kernel
theorem dX12_isHit_11 : decode cX12_isHit 11 = .ok (.bipush 126, 2) := by decide +kernel
theorem dX12_isHit_13 : decode cX12_isHit 13 = .ok (.iload 4, 2) := by decide +kernel
theorem dX12_isHit_15 : decode cX12_isHit 15 = .ok (.iadd, 1) := by decide +kernel
theorem dX12_isHit_16 : decode cX12_isHit 16 = .ok (.iaload, 1) := by decide +kernel
theorem dX12_isHit_17 : decode cX12_isHit 17 = .ok (.iconst 1, 1) := by decide +kernel
theorem dX12_isHit_18 : decode cX12_isHit 18 = .ok (.if_icmp .ne 47, 3) := by decide +kernel
theorem dX12_isHit_21 : decode cX12_isHit 21 = .ok (.iload_n 3, 1) := by decide +kernel
theorem dX12_isHit_22 : decode cX12_isHit 22 = .ok (.iconst 1, 1) := by decide +kernel
theorem dX12_isHit_23 : decode cX12_isHit 23 = .ok (.if_icmp .ne 19, 3) := by decide +kernel
theorem dX12_isHit_26 : decode cX12_isHit 26 = .ok (.aload_n 0, 1) := by decide +kernel
theorem dX12_isHit_27 : decode cX12_isHit 27 = .ok (.getfield 9, 3) := by decide +kernel
theorem dX12_isHit_30 : decode cX12_isHit 30 = .ok (.bipush 14, 2) := by decide +kernel
theorem dX12_isHit_32 : decode cX12_isHit 32 = .ok (.iload 4, 2) := by decide +kernel
theorem dX12_isHit_34 : decode cX12_isHit 34 = .ok (.iadd, 1) := by decide +kernel
theorem dX12_isHit_35 : decode cX12_isHit 35 = .ok (.iaload, 1) := by decide +kernel
theorem dX12_isHit_36 : decode cX12_isHit 36 = .ok (.ifCond .le 29, 3) := by decide +kernel
theorem dX12_isHit_39 : decode cX12_isHit 39 = .ok (.goto 22, 3) := by decide +kernel
theorem dX12_isHit_42 : decode cX12_isHit 42 = .ok (.aload_n 0, 1) := by decide +kernel
theorem dX12_isHit_43 : decode cX12_isHit 43 = .ok (.getfield 9, 3) := by decide +kernel
theorem dX12_isHit_46 : decode cX12_isHit 46 = .ok (.bipush 14, 2) := by decide +kernel
theorem dX12_isHit_48 : decode cX12_isHit 48 = .ok (.iload 4, 2) := by decide +kernel
theorem dX12_isHit_50 : decode cX12_isHit 50 = .ok (.iadd, 1) := by decide +kernel
theorem dX12_isHit_51 : decode cX12_isHit 51 = .ok (.iaload, 1) := by decide +kernel
theorem dX12_isHit_52 : decode cX12_isHit 52 = .ok (.aload_n 0, 1) := by decide +kernel
theorem dX12_isHit_53 : decode cX12_isHit 53 = .ok (.getfield 9, 3) := by decide +kernel
theorem dX12_isHit_56 : decode cX12_isHit 56 = .ok (.iconst 1, 1) := by decide +kernel
theorem dX12_isHit_57 : decode cX12_isHit 57 = .ok (.iaload, 1) := by decide +kernel
theorem dX12_isHit_58 : decode cX12_isHit 58 = .ok (.if_icmp .ne 7, 3) := by decide +kernel
theorem dX12_isHit_61 : decode cX12_isHit 61 = .ok (.iconst 1, 1) := by decide +kernel
theorem dX12_isHit_62 : decode cX12_isHit 62 = .ok (.goto 4, 3) := by decide +kernel
theorem dX12_isHit_65 : decode cX12_isHit 65 = .ok (.iconst 0, 1) := by decide +kernel
theorem dX12_isHit_66 : decode cX12_isHit 66 = .ok (.ireturn, 1) := by decide +kernel
def xX12_isHit  (l1 : Int32) (l2 : Int32) (l3 : Int32) (M : j_M) : Option (Int32 × j_M) := obi (xX12_place l1 l2 M) fun v2 M1 => gd ((nI 126) + v2) 7460 (oli (M1 201 (ix ((nI 126) + v2))) fun v3 => (if v3 = (nI 1) then (if l3 = (nI 1) then gd ((nI 14) + v2) 7460 (oli (M1 201 (ix ((nI 14) + v2))) fun v6 => (if v6 ≤ (0 : Int32) then some ((nI 0), M1) else some ((nI 1), M1))) else gd ((nI 14) + v2) 7460 (oli (M1 201 (ix ((nI 14) + v2))) fun v4 => gd (nI 1) 7460 (oli (M1 201 (ix (nI 1))) fun v5 => (if v4 = v5 then some ((nI 1), M1) else some ((nI 0), M1))))) else some ((nI 0), M1)))
set_option maxRecDepth 20000 in
set_option maxHeartbeats 2000000 in
theorem tX12_isHit  (l1 : Int32) (l2 : Int32) (l3 : Int32) (M : j_M) : J (ρ := Int32 × j_M) yX12_isHit cX12_isHit 5 (some .boolean) 1 21 j_ei 0 [(0, .inr (17, 0, 200)), (1, .inl (l1)), (2, .inl (l2)), (3, .inl (l3))] [] M (xX12_isHit  l1 l2 l3 M) := by
  unfold xX12_isHit
  refine K_iload_n (q := 1) 1 dX12_isHit_0 rfl rfl rfl ?_
  refine K_iload_n (q := 2) 2 dX12_isHit_1 rfl rfl rfl ?_
  refine K_csi (q := 5) [.inl (l1), .inl (l2)] dX12_isHit_2 cb_X12_place cvRX12_61 rfl (Nat.le_of_ble_eq_true rfl) ⟨by decide, by decide⟩ (Nat.le_of_ble_eq_true rfl) rfl (tX12_place l1 l2 M) rfl (fun v2 M1 => ?_)
  refine K_istore (q := 7) (ll' := [(4, .inl (v2)), (0, .inr (17, 0, 200)), (1, .inl (l1)), (2, .inl (l2)), (3, .inl (l3))]) dX12_isHit_5 (by decide) rfl rfl ?_
  refine K_aload_n (q := 8) 1 dX12_isHit_7 rfl rfl rfl ?_
  refine K_getR (q := 11) (ci := 7) (a2 := 201) 0 dX12_isHit_8 fRX12_9 rfl rfl (by decide) rfl rfl ?_
  refine K_bipush (q := 13) (v := nI 126) dX12_isHit_11 rfl rfl ?_
  refine K_iload (q := 15) 0 dX12_isHit_13 rfl rfl ?_
  refine K_iadd (q := 16) dX12_isHit_15 rfl ?_
  refine K_iald (q := 17) dX12_isHit_16 rfl (fun v3 => ?_)
  refine K_iconst (q := 18) (v := nI 1) dX12_isHit_17 rfl rfl ?_
  refine K_icmp_ne (q := 21) (tgt := 65) dX12_isHit_18 rfl ?_ rfl ?_
  · refine K_iconst (q := 66) (v := nI 0) dX12_isHit_65 rfl rfl ?_
    exact J_zret dX12_isHit_66 (by decide)
  · refine K_iload_n (q := 22) 4 dX12_isHit_21 rfl rfl rfl ?_
    refine K_iconst (q := 23) (v := nI 1) dX12_isHit_22 rfl rfl ?_
    refine K_icmp_ne (q := 26) (tgt := 42) dX12_isHit_23 rfl ?_ rfl ?_
    · refine K_aload_n (q := 43) 1 dX12_isHit_42 rfl rfl rfl ?_
      refine K_getR (q := 46) (ci := 7) (a2 := 201) 0 dX12_isHit_43 fRX12_9 rfl rfl (by decide) rfl rfl ?_
      refine K_bipush (q := 48) (v := nI 14) dX12_isHit_46 rfl rfl ?_
      refine K_iload (q := 50) 0 dX12_isHit_48 rfl rfl ?_
      refine K_iadd (q := 51) dX12_isHit_50 rfl ?_
      refine K_iald (q := 52) dX12_isHit_51 rfl (fun v4 => ?_)
      refine K_aload_n (q := 53) 1 dX12_isHit_52 rfl rfl rfl ?_
      refine K_getR (q := 56) (ci := 7) (a2 := 201) 0 dX12_isHit_53 fRX12_9 rfl rfl (by decide) rfl rfl ?_
      refine K_iconst (q := 57) (v := nI 1) dX12_isHit_56 rfl rfl ?_
      refine K_iald (q := 58) dX12_isHit_57 rfl (fun v5 => ?_)
      refine K_icmp_ne (q := 61) (tgt := 65) dX12_isHit_58 rfl ?_ rfl ?_
      · refine K_iconst (q := 66) (v := nI 0) dX12_isHit_65 rfl rfl ?_
        exact J_zret dX12_isHit_66 (by decide)
      · refine K_iconst (q := 62) (v := nI 1) dX12_isHit_61 rfl rfl ?_
        refine J_goto (tgt := 66) dX12_isHit_62 rfl ?_
        exact J_zret dX12_isHit_66 (by decide)
    · refine K_aload_n (q := 27) 1 dX12_isHit_26 rfl rfl rfl ?_
      refine K_getR (q := 30) (ci := 7) (a2 := 201) 0 dX12_isHit_27 fRX12_9 rfl rfl (by decide) rfl rfl ?_
      refine K_bipush (q := 32) (v := nI 14) dX12_isHit_30 rfl rfl ?_
      refine K_iload (q := 34) 0 dX12_isHit_32 rfl rfl ?_
      refine K_iadd (q := 35) dX12_isHit_34 rfl ?_
      refine K_iald (q := 36) dX12_isHit_35 rfl (fun v6 => ?_)
      refine K_if_le (q := 39) (tgt := 65) dX12_isHit_36 rfl ?_ rfl ?_
      · refine K_iconst (q := 66) (v := nI 0) dX12_isHit_65 rfl rfl ?_
        exact J_zret dX12_isHit_66 (by decide)
      · refine J_goto (tgt := 61) dX12_isHit_39 rfl ?_
        refine K_iconst (q := 62) (v := nI 1) dX12_isHit_61 rfl rfl ?_
        refine J_goto (tgt := 66) dX12_isHit_62 rfl ?_
        exact J_zret dX12_isHit_66 (by decide)
theorem dX12_notes_0 : decode cX12_notes 0 = .ok (.sipush 6962, 3) := by decide +kernel
theorem dX12_notes_3 : decode cX12_notes 3 = .ok (.iconst 4, 1) := by decide +kernel
theorem dX12_notes_4 : decode cX12_notes 4 = .ok (.aload_n 0, 1) := by decide +kernel
theorem dX12_notes_5 : decode cX12_notes 5 = .ok (.getfield 9, 3) := by decide +kernel
theorem dX12_notes_8 : decode cX12_notes 8 = .ok (.sipush 6961, 3) := by decide +kernel
theorem dX12_notes_11 : decode cX12_notes 11 = .ok (.iaload, 1) := by decide +kernel
theorem dX12_notes_12 : decode cX12_notes 12 = .ok (.bipush 100, 2) := by decide +kernel
theorem dX12_notes_14 : decode cX12_notes 14 = .ok (.irem, 1) := by decide +kernel
theorem dX12_notes_15 : decode cX12_notes 15 = .ok (.imul, 1) := by decide +kernel
theorem dX12_notes_16 : decode cX12_notes 16 = .ok (.iadd, 1) := by decide +kernel
theorem dX12_notes_17 : decode cX12_notes 17 = .ok (.istore 4, 2) := by decide +kernel
theorem dX12_notes_19 : decode cX12_notes 19 = .ok (.aload_n 0, 1) := by decide +kernel
theorem dX12_notes_20 : decode cX12_notes 20 = .ok (.getfield 9, 3) := by decide +kernel
theorem dX12_notes_23 : decode cX12_notes 23 = .ok (.iload 4, 2) := by decide +kernel
theorem dX12_notes_25 : decode cX12_notes 25 = .ok (.aload_n 0, 1) := by decide +kernel
theorem dX12_notes_26 : decode cX12_notes 26 = .ok (.getfield 9, 3) := by decide +kernel
theorem dX12_notes_29 : decode cX12_notes 29 = .ok (.iconst 5, 1) := by decide +kernel
theorem dX12_notes_30 : decode cX12_notes 30 = .ok (.iaload, 1) := by decide +kernel
theorem dX12_notes_31 : decode cX12_notes 31 = .ok (.iastore, 1) := by decide +kernel
theorem dX12_notes_32 : decode cX12_notes 32 = .ok (.aload_n 0, 1) := by decide +kernel
theorem dX12_notes_33 : decode cX12_notes 33 = .ok (.getfield 9, 3) := by decide +kernel
theorem dX12_notes_36 : decode cX12_notes 36 = .ok (.iload 4, 2) := by decide +kernel
theorem dX12_notes_38 : decode cX12_notes 38 = .ok (.iconst 1, 1) := by decide +kernel
theorem dX12_notes_39 : decode cX12_notes 39 = .ok (.iadd, 1) := by decide +kernel
theorem dX12_notes_40 : decode cX12_notes 40 = .ok (.iload_n 1, 1) := by decide +kernel
theorem dX12_notes_41 : decode cX12_notes 41 = .ok (.iastore, 1) := by decide +kernel
theorem dX12_notes_42 : decode cX12_notes 42 = .ok (.aload_n 0, 1) := by decide +kernel
theorem dX12_notes_43 : decode cX12_notes 43 = .ok (.getfield 9, 3) := by decide +kernel
theorem dX12_notes_46 : decode cX12_notes 46 = .ok (.iload 4, 2) := by decide +kernel
theorem dX12_notes_48 : decode cX12_notes 48 = .ok (.iconst 2, 1) := by decide +kernel
theorem dX12_notes_49 : decode cX12_notes 49 = .ok (.iadd, 1) := by decide +kernel
theorem dX12_notes_50 : decode cX12_notes 50 = .ok (.iload_n 2, 1) := by decide +kernel
theorem dX12_notes_51 : decode cX12_notes 51 = .ok (.iastore, 1) := by decide +kernel
theorem dX12_notes_52 : decode cX12_notes 52 = .ok (.aload_n 0, 1) := by decide +kernel
theorem dX12_notes_53 : decode cX12_notes 53 = .ok (.getfield 9, 3) := by decide +kernel
theorem dX12_notes_56 : decode cX12_notes 56 = .ok (.iload 4, 2) := by decide +kernel
theorem dX12_notes_58 : decode cX12_notes 58 = .ok (.iconst 3, 1) := by decide +kernel
theorem dX12_notes_59 : decode cX12_notes 59 = .ok (.iadd, 1) := by decide +kernel
theorem dX12_notes_60 : decode cX12_notes 60 = .ok (.iload_n 3, 1) := by decide +kernel
theorem dX12_notes_61 : decode cX12_notes 61 = .ok (.iastore, 1) := by decide +kernel
theorem dX12_notes_62 : decode cX12_notes 62 = .ok (.aload_n 0, 1) := by decide +kernel
theorem dX12_notes_63 : decode cX12_notes 63 = .ok (.getfield 9, 3) := by decide +kernel
theorem dX12_notes_66 : decode cX12_notes 66 = .ok (.sipush 6961, 3) := by decide +kernel
theorem dX12_notes_69 : decode cX12_notes 69 = .ok (.dup2, 1) := by decide +kernel
theorem dX12_notes_70 : decode cX12_notes 70 = .ok (.iaload, 1) := by decide +kernel
theorem dX12_notes_71 : decode cX12_notes 71 = .ok (.iconst 1, 1) := by decide +kernel
theorem dX12_notes_72 : decode cX12_notes 72 = .ok (.iadd, 1) := by decide +kernel
theorem dX12_notes_73 : decode cX12_notes 73 = .ok (.iastore, 1) := by decide +kernel
theorem dX12_notes_74 : decode cX12_notes 74 = .ok (.return_, 1) := by decide +kernel
def xX12_notes  (l1 : Int32) (l2 : Int32) (l3 : Int32) (M : j_M) : Option (j_M) := gd (nI 6961) 7460 (oli (M 201 (ix (nI 6961))) fun v1 => gn (nI 100) (gd (nI 5) 7460 (oli (M 201 (ix (nI 5))) fun v2 => gd ((nI 6962) + ((nI 4) * (v1 - v1 / (nI 100) * (nI 100)))) 7460 (oml (mw M 201 (ix ((nI 6962) + ((nI 4) * (v1 - v1 / (nI 100) * (nI 100))))) v2) fun M3 => gd (((nI 6962) + ((nI 4) * (v1 - v1 / (nI 100) * (nI 100)))) + (nI 1)) 7460 (oml (mw M3 201 (ix (((nI 6962) + ((nI 4) * (v1 - v1 / (nI 100) * (nI 100)))) + (nI 1))) l1) fun M4 => gd (((nI 6962) + ((nI 4) * (v1 - v1 / (nI 100) * (nI 100)))) + (nI 2)) 7460 (oml (mw M4 201 (ix (((nI 6962) + ((nI 4) * (v1 - v1 / (nI 100) * (nI 100)))) + (nI 2))) l2) fun M5 => gd (((nI 6962) + ((nI 4) * (v1 - v1 / (nI 100) * (nI 100)))) + (nI 3)) 7460 (oml (mw M5 201 (ix (((nI 6962) + ((nI 4) * (v1 - v1 / (nI 100) * (nI 100)))) + (nI 3))) l3) fun M6 => gd (nI 6961) 7460 (oli (M6 201 (ix (nI 6961))) fun v7 => gd (nI 6961) 7460 (oml (mw M6 201 (ix (nI 6961)) (v7 + (nI 1))) fun M8 => some M8)))))))))
set_option maxRecDepth 20000 in
set_option maxHeartbeats 2000000 in
theorem tX12_notes  (l1 : Int32) (l2 : Int32) (l3 : Int32) (M : j_M) : J (ρ := j_M) yX12_notes cX12_notes 5 none 0 0 j_ev 0 [(0, .inr (17, 0, 200)), (1, .inl (l1)), (2, .inl (l2)), (3, .inl (l3))] [] M (xX12_notes  l1 l2 l3 M) := by
  unfold xX12_notes
  refine K_sipush (q := 3) (v := nI 6962) dX12_notes_0 rfl rfl ?_
  refine K_iconst (q := 4) (v := nI 4) dX12_notes_3 rfl rfl ?_
  refine K_aload_n (q := 5) 0 dX12_notes_4 rfl rfl rfl ?_
  refine K_getR (q := 8) (ci := 7) (a2 := 201) 0 dX12_notes_5 fRX12_9 rfl rfl (by decide) rfl rfl ?_
  refine K_sipush (q := 11) (v := nI 6961) dX12_notes_8 rfl rfl ?_
  refine K_iald (q := 12) dX12_notes_11 rfl (fun v1 => ?_)
  refine K_bipush (q := 14) (v := nI 100) dX12_notes_12 rfl rfl ?_
  refine K_irem (q := 15) dX12_notes_14 rfl ?_
  refine K_imul (q := 16) dX12_notes_15 rfl ?_
  refine K_iadd (q := 17) dX12_notes_16 rfl ?_
  refine K_istore (q := 19) (ll' := [(4, .inl ((nI 6962) + ((nI 4) * (v1 - v1 / (nI 100) * (nI 100))))), (0, .inr (17, 0, 200)), (1, .inl (l1)), (2, .inl (l2)), (3, .inl (l3))]) dX12_notes_17 (by decide) rfl rfl ?_
  refine K_aload_n (q := 20) 1 dX12_notes_19 rfl rfl rfl ?_
  refine K_getR (q := 23) (ci := 7) (a2 := 201) 0 dX12_notes_20 fRX12_9 rfl rfl (by decide) rfl rfl ?_
  refine K_iload (q := 25) 0 dX12_notes_23 rfl rfl ?_
  refine K_aload_n (q := 26) 1 dX12_notes_25 rfl rfl rfl ?_
  refine K_getR (q := 29) (ci := 7) (a2 := 201) 0 dX12_notes_26 fRX12_9 rfl rfl (by decide) rfl rfl ?_
  refine K_iconst (q := 30) (v := nI 5) dX12_notes_29 rfl rfl ?_
  refine K_iald (q := 31) dX12_notes_30 rfl (fun v2 => ?_)
  refine K_iast (q := 32) dX12_notes_31 rfl (fun M3 => ?_)
  refine K_aload_n (q := 33) 1 dX12_notes_32 rfl rfl rfl ?_
  refine K_getR (q := 36) (ci := 7) (a2 := 201) 0 dX12_notes_33 fRX12_9 rfl rfl (by decide) rfl rfl ?_
  refine K_iload (q := 38) 0 dX12_notes_36 rfl rfl ?_
  refine K_iconst (q := 39) (v := nI 1) dX12_notes_38 rfl rfl ?_
  refine K_iadd (q := 40) dX12_notes_39 rfl ?_
  refine K_iload_n (q := 41) 2 dX12_notes_40 rfl rfl rfl ?_
  refine K_iast (q := 42) dX12_notes_41 rfl (fun M4 => ?_)
  refine K_aload_n (q := 43) 1 dX12_notes_42 rfl rfl rfl ?_
  refine K_getR (q := 46) (ci := 7) (a2 := 201) 0 dX12_notes_43 fRX12_9 rfl rfl (by decide) rfl rfl ?_
  refine K_iload (q := 48) 0 dX12_notes_46 rfl rfl ?_
  refine K_iconst (q := 49) (v := nI 2) dX12_notes_48 rfl rfl ?_
  refine K_iadd (q := 50) dX12_notes_49 rfl ?_
  refine K_iload_n (q := 51) 3 dX12_notes_50 rfl rfl rfl ?_
  refine K_iast (q := 52) dX12_notes_51 rfl (fun M5 => ?_)
  refine K_aload_n (q := 53) 1 dX12_notes_52 rfl rfl rfl ?_
  refine K_getR (q := 56) (ci := 7) (a2 := 201) 0 dX12_notes_53 fRX12_9 rfl rfl (by decide) rfl rfl ?_
  refine K_iload (q := 58) 0 dX12_notes_56 rfl rfl ?_
  refine K_iconst (q := 59) (v := nI 3) dX12_notes_58 rfl rfl ?_
  refine K_iadd (q := 60) dX12_notes_59 rfl ?_
  refine K_iload_n (q := 61) 4 dX12_notes_60 rfl rfl rfl ?_
  refine K_iast (q := 62) dX12_notes_61 rfl (fun M6 => ?_)
  refine K_aload_n (q := 63) 1 dX12_notes_62 rfl rfl rfl ?_
  refine K_getR (q := 66) (ci := 7) (a2 := 201) 0 dX12_notes_63 fRX12_9 rfl rfl (by decide) rfl rfl ?_
  refine K_sipush (q := 69) (v := nI 6961) dX12_notes_66 rfl rfl ?_
  refine K_dup2 (q := 70) dX12_notes_69 rfl ?_
  refine K_iald (q := 71) dX12_notes_70 rfl (fun v7 => ?_)
  refine K_iconst (q := 72) (v := nI 1) dX12_notes_71 rfl rfl ?_
  refine K_iadd (q := 73) dX12_notes_72 rfl ?_
  refine K_iast (q := 74) dX12_notes_73 rfl (fun M8 => ?_)
  exact J_vret dX12_notes_74
theorem dX12_begins_0 : decode cX12_begins 0 = .ok (.aload_n 0, 1) := by decide +kernel
theorem dX12_begins_1 : decode cX12_begins 1 = .ok (.iload_n 1, 1) := by decide +kernel
theorem dX12_begins_2 : decode cX12_begins 2 = .ok (.iload_n 2, 1) := by decide +kernel
theorem dX12_begins_3 : decode cX12_begins 3 = .ok (.iload_n 3, 1) := by decide +kernel
theorem dX12_begins_4 : decode cX12_begins 4 = .ok (.invokevirtual 143, 3) := by decide +kernel
theorem dX12_begins_7 : decode cX12_begins 7 = .ok (.ifCond .eq 48, 3) := by decide +kernel
theorem dX12_begins_10 : decode cX12_begins 10 = .ok (.aload_n 0, 1) := by decide +kernel
theorem dX12_begins_11 : decode cX12_begins 11 = .ok (.getfield 9, 3) := by decide +kernel
theorem dX12_begins_14 : decode cX12_begins 14 = .ok (.bipush 9, 2) := by decide +kernel
theorem dX12_begins_16 : decode cX12_begins 16 = .ok (.dup2, 1) := by decide +kernel
theorem dX12_begins_17 : decode cX12_begins 17 = .ok (.iaload, 1) := by decide +kernel
theorem dX12_begins_18 : decode cX12_begins 18 = .ok (.iconst 1, 1) := by decide +kernel
theorem dX12_begins_19 : decode cX12_begins 19 = .ok (.iadd, 1) := by decide +kernel
theorem dX12_begins_20 : decode cX12_begins 20 = .ok (.iastore, 1) := by decide +kernel
theorem dX12_begins_21 : decode cX12_begins 21 = .ok (.aload_n 0, 1) := by decide +kernel
theorem dX12_begins_22 : decode cX12_begins 22 = .ok (.getfield 9, 3) := by decide +kernel
theorem dX12_begins_25 : decode cX12_begins 25 = .ok (.sipush 6736, 3) := by decide +kernel
theorem dX12_begins_28 : decode cX12_begins 28 = .ok (.iconst 5, 1) := by decide +kernel
theorem dX12_begins_29 : decode cX12_begins 29 = .ok (.iload_n 1, 1) := by decide +kernel
theorem dX12_begins_30 : decode cX12_begins 30 = .ok (.imul, 1) := by decide +kernel
theorem dX12_begins_31 : decode cX12_begins 31 = .ok (.iadd, 1) := by decide +kernel
theorem dX12_begins_32 : decode cX12_begins 32 = .ok (.dup2, 1) := by decide +kernel
theorem dX12_begins_33 : decode cX12_begins 33 = .ok (.iaload, 1) := by decide +kernel
theorem dX12_begins_34 : decode cX12_begins 34 = .ok (.iconst 1, 1) := by decide +kernel
theorem dX12_begins_35 : decode cX12_begins 35 = .ok (.iadd, 1) := by decide +kernel
theorem dX12_begins_36 : decode cX12_begins 36 = .ok (.iastore, 1) := by decide +kernel
theorem dX12_begins_37 : decode cX12_begins 37 = .ok (.aload_n 0, 1) := by decide +kernel
theorem dX12_begins_38 : decode cX12_begins 38 = .ok (.iconst 0, 1) := by decide +kernel
theorem dX12_begins_39 : decode cX12_begins 39 = .ok (.iload_n 1, 1) := by decide +kernel
theorem dX12_begins_40 : decode cX12_begins 40 = .ok (.iload_n 2, 1) := by decide +kernel
theorem dX12_begins_41 : decode cX12_begins 41 = .ok (.invokevirtual 122, 3) := by decide +kernel
theorem dX12_begins_44 : decode cX12_begins 44 = .ok (.aload_n 0, 1) := by decide +kernel
theorem dX12_begins_45 : decode cX12_begins 45 = .ok (.iload_n 1, 1) := by decide +kernel
theorem dX12_begins_46 : decode cX12_begins 46 = .ok (.iload_n 2, 1) := by decide +kernel
theorem dX12_begins_47 : decode cX12_begins 47 = .ok (.iload_n 3, 1) := by decide +kernel
theorem dX12_begins_48 : decode cX12_begins 48 = .ok (.iload 4, 2) := by decide +kernel
theorem dX12_begins_50 : decode cX12_begins 50 = .ok (.invokevirtual 137, 3) := by decide +kernel
theorem dX12_begins_53 : decode cX12_begins 53 = .ok (.iconst 1, 1) := by decide +kernel
theorem dX12_begins_54 : decode cX12_begins 54 = .ok (.ireturn, 1) := by decide +kernel
theorem dX12_begins_55 : decode cX12_begins 55 = .ok (.aload_n 0, 1) := by decide +kernel
theorem dX12_begins_56 : decode cX12_begins 56 = .ok (.getfield 9, 3) := by decide +kernel
theorem dX12_begins_59 : decode cX12_begins 59 = .ok (.sipush 292, 3) := by decide +kernel
theorem dX12_begins_62 : decode cX12_begins 62 = .ok (.iload_n 1, 1) := by decide +kernel
theorem dX12_begins_63 : decode cX12_begins 63 = .ok (.iadd, 1) := by decide +kernel
theorem dX12_begins_64 : decode cX12_begins 64 = .ok (.iload_n 2, 1) := by decide +kernel
theorem dX12_begins_65 : decode cX12_begins 65 = .ok (.iastore, 1) := by decide +kernel
theorem dX12_begins_66 : decode cX12_begins 66 = .ok (.aload_n 0, 1) := by decide +kernel
theorem dX12_begins_67 : decode cX12_begins 67 = .ok (.getfield 9, 3) := by decide +kernel
theorem dX12_begins_70 : decode cX12_begins 70 = .ok (.sipush 298, 3) := by decide +kernel
theorem dX12_begins_73 : decode cX12_begins 73 = .ok (.iload_n 1, 1) := by decide +kernel
theorem dX12_begins_74 : decode cX12_begins 74 = .ok (.iadd, 1) := by decide +kernel
theorem dX12_begins_75 : decode cX12_begins 75 = .ok (.iload_n 3, 1) := by decide +kernel
theorem dX12_begins_76 : decode cX12_begins 76 = .ok (.iastore, 1) := by decide +kernel
theorem dX12_begins_77 : decode cX12_begins 77 = .ok (.aload_n 0, 1) := by decide +kernel
theorem dX12_begins_78 : decode cX12_begins 78 = .ok (.getfield 9, 3) := by decide +kernel
theorem dX12_begins_81 : decode cX12_begins 81 = .ok (.sipush 304, 3) := by decide +kernel
theorem dX12_begins_84 : decode cX12_begins 84 = .ok (.iload_n 1, 1) := by decide +kernel
theorem dX12_begins_85 : decode cX12_begins 85 = .ok (.iadd, 1) := by decide +kernel
theorem dX12_begins_86 : decode cX12_begins 86 = .ok (.iload 4, 2) := by decide +kernel
theorem dX12_begins_88 : decode cX12_begins 88 = .ok (.iastore, 1) := by decide +kernel
theorem dX12_begins_89 : decode cX12_begins 89 = .ok (.aload_n 0, 1) := by decide +kernel
theorem dX12_begins_90 : decode cX12_begins 90 = .ok (.getfield 9, 3) := by decide +kernel
theorem dX12_begins_93 : decode cX12_begins 93 = .ok (.sipush 526, 3) := by decide +kernel
theorem dX12_begins_96 : decode cX12_begins 96 = .ok (.iload_n 1, 1) := by decide +kernel
theorem dX12_begins_97 : decode cX12_begins 97 = .ok (.iadd, 1) := by decide +kernel
theorem dX12_begins_98 : decode cX12_begins 98 = .ok (.iconst 1, 1) := by decide +kernel
theorem dX12_begins_99 : decode cX12_begins 99 = .ok (.iastore, 1) := by decide +kernel
theorem dX12_begins_100 : decode cX12_begins 100 = .ok (.aload_n 0, 1) := by decide +kernel
theorem dX12_begins_101 : decode cX12_begins 101 = .ok (.getfield 9, 3) := by decide +kernel
theorem dX12_begins_104 : decode cX12_begins 104 = .ok (.sipush 532, 3) := by decide +kernel
theorem dX12_begins_107 : decode cX12_begins 107 = .ok (.iload_n 1, 1) := by decide +kernel
theorem dX12_begins_108 : decode cX12_begins 108 = .ok (.iadd, 1) := by decide +kernel
theorem dX12_begins_109 : decode cX12_begins 109 = .ok (.aload_n 0, 1) := by decide +kernel
theorem dX12_begins_110 : decode cX12_begins 110 = .ok (.getfield 9, 3) := by decide +kernel
theorem dX12_begins_113 : decode cX12_begins 113 = .ok (.iconst 5, 1) := by decide +kernel
theorem dX12_begins_114 : decode cX12_begins 114 = .ok (.iaload, 1) := by decide +kernel
theorem dX12_begins_115 : decode cX12_begins 115 = .ok (.iastore, 1) := by decide +kernel
theorem dX12_begins_116 : decode cX12_begins 116 = .ok (.aload_n 0, 1) := by decide +kernel
theorem dX12_begins_117 : decode cX12_begins 117 = .ok (.getfield 9, 3) := by decide +kernel
theorem dX12_begins_120 : decode cX12_begins 120 = .ok (.sipush 6730, 3) := by decide +kernel
theorem dX12_begins_123 : decode cX12_begins 123 = .ok (.iload_n 1, 1) := by decide +kernel
theorem dX12_begins_124 : decode cX12_begins 124 = .ok (.iadd, 1) := by decide +kernel
theorem dX12_begins_125 : decode cX12_begins 125 = .ok (.aload_n 0, 1) := by decide +kernel
theorem dX12_begins_126 : decode cX12_begins 126 = .ok (.getfield 9, 3) := by decide +kernel
theorem dX12_begins_129 : decode cX12_begins 129 = .ok (.iconst 5, 1) := by decide +kernel
theorem dX12_begins_130 : decode cX12_begins 130 = .ok (.iaload, 1) := by decide +kernel
theorem dX12_begins_131 : decode cX12_begins 131 = .ok (.iastore, 1) := by decide +kernel
theorem dX12_begins_132 : decode cX12_begins 132 = .ok (.aload_n 0, 1) := by decide +kernel
theorem dX12_begins_133 : decode cX12_begins 133 = .ok (.getfield 9, 3) := by decide +kernel
theorem dX12_begins_136 : decode cX12_begins 136 = .ok (.sipush 310, 3) := by decide +kernel
theorem dX12_begins_139 : decode cX12_begins 139 = .ok (.iload_n 1, 1) := by decide +kernel
theorem dX12_begins_140 : decode cX12_begins 140 = .ok (.iadd, 1) := by decide +kernel
theorem dX12_begins_141 : decode cX12_begins 141 = .ok (.iconst 0, 1) := by decide +kernel
theorem dX12_begins_142 : decode cX12_begins 142 = .ok (.iastore, 1) := by decide +kernel
theorem dX12_begins_143 : decode cX12_begins 143 = .ok (.aload_n 0, 1) := by decide +kernel
theorem dX12_begins_144 : decode cX12_begins 144 = .ok (.iconst 1, 1) := by decide +kernel
theorem dX12_begins_145 : decode cX12_begins 145 = .ok (.iload_n 1, 1) := by decide +kernel
theorem dX12_begins_146 : decode cX12_begins 146 = .ok (.iload_n 2, 1) := by decide +kernel
theorem dX12_begins_147 : decode cX12_begins 147 = .ok (.invokevirtual 122, 3) := by decide +kernel
theorem dX12_begins_150 : decode cX12_begins 150 = .ok (.aload_n 0, 1) := by decide +kernel
theorem dX12_begins_151 : decode cX12_begins 151 = .ok (.iload_n 1, 1) := by decide +kernel
theorem dX12_begins_152 : decode cX12_begins 152 = .ok (.invokevirtual 146, 3) := by decide +kernel
theorem dX12_begins_155 : decode cX12_begins 155 = .ok (.iconst 0, 1) := by decide +kernel
theorem dX12_begins_156 : decode cX12_begins 156 = .ok (.ireturn, 1) := by decide +kernel
def xX12_begins  (l1 : Int32) (l2 : Int32) (l3 : Int32) (l4 : Int32) (M : j_M) : Option (Int32 × j_M) := obi (xX12_isHit l1 l2 l3 M) fun v2 M1 => (if v2 = (0 : Int32) then gd ((nI 292) + l1) 7460 (oml (mw M1 201 (ix ((nI 292) + l1)) l2) fun M3 => gd ((nI 298) + l1) 7460 (oml (mw M3 201 (ix ((nI 298) + l1)) l3) fun M4 => gd ((nI 304) + l1) 7460 (oml (mw M4 201 (ix ((nI 304) + l1)) l4) fun M5 => gd ((nI 526) + l1) 7460 (oml (mw M5 201 (ix ((nI 526) + l1)) (nI 1)) fun M6 => gd (nI 5) 7460 (oli (M6 201 (ix (nI 5))) fun v7 => gd ((nI 532) + l1) 7460 (oml (mw M6 201 (ix ((nI 532) + l1)) v7) fun M8 => gd (nI 5) 7460 (oli (M8 201 (ix (nI 5))) fun v9 => gd ((nI 6730) + l1) 7460 (oml (mw M8 201 (ix ((nI 6730) + l1)) v9) fun M10 => gd ((nI 310) + l1) 7460 (oml (mw M10 201 (ix ((nI 310) + l1)) (nI 0)) fun M11 => obv (xX12_notes (nI 1) l1 l2 M11) fun M12 => obv (xX12_asks l1 M12) fun M13 => some ((nI 0), M13)))))))))) else gd (nI 9) 7460 (oli (M1 201 (ix (nI 9))) fun v14 => gd (nI 9) 7460 (oml (mw M1 201 (ix (nI 9)) (v14 + (nI 1))) fun M15 => gd ((nI 6736) + ((nI 5) * l1)) 7460 (oli (M15 201 (ix ((nI 6736) + ((nI 5) * l1)))) fun v16 => gd ((nI 6736) + ((nI 5) * l1)) 7460 (oml (mw M15 201 (ix ((nI 6736) + ((nI 5) * l1))) (v16 + (nI 1))) fun M17 => obv (xX12_notes (nI 0) l1 l2 M17) fun M18 => obv (xX12_does l1 l2 l3 l4 M18) fun M19 => some ((nI 1), M19))))))
set_option maxRecDepth 20000 in
set_option maxHeartbeats 2000000 in
theorem tX12_begins  (l1 : Int32) (l2 : Int32) (l3 : Int32) (l4 : Int32) (M : j_M) : J (ρ := Int32 × j_M) yX12_begins cX12_begins 5 (some .boolean) 5 115 j_ei 0 [(0, .inr (17, 0, 200)), (1, .inl (l1)), (2, .inl (l2)), (3, .inl (l3)), (4, .inl (l4))] [] M (xX12_begins  l1 l2 l3 l4 M) := by
  unfold xX12_begins
  refine K_aload_n (q := 1) 0 dX12_begins_0 rfl rfl rfl ?_
  refine K_iload_n (q := 2) 1 dX12_begins_1 rfl rfl rfl ?_
  refine K_iload_n (q := 3) 2 dX12_begins_2 rfl rfl rfl ?_
  refine K_iload_n (q := 4) 3 dX12_begins_3 rfl rfl rfl ?_
  refine K_cvi (q := 7) [.inl (l1), .inl (l2), .inl (l3)] dX12_begins_4 cb_X12_isHit cvRX12_143 rc_7 (show (17 : Nat) ≠ 0 by decide) rfl (Nat.le_of_ble_eq_true rfl) ⟨by decide, by decide⟩ (Nat.le_of_ble_eq_true rfl) rfl (tX12_isHit l1 l2 l3 M) rfl (fun v2 M1 => ?_)
  refine K_if_eq (q := 10) (tgt := 55) dX12_begins_7 rfl ?_ rfl ?_
  · refine K_aload_n (q := 56) 0 dX12_begins_55 rfl rfl rfl ?_
    refine K_getR (q := 59) (ci := 7) (a2 := 201) 0 dX12_begins_56 fRX12_9 rfl rfl (by decide) rfl rfl ?_
    refine K_sipush (q := 62) (v := nI 292) dX12_begins_59 rfl rfl ?_
    refine K_iload_n (q := 63) 1 dX12_begins_62 rfl rfl rfl ?_
    refine K_iadd (q := 64) dX12_begins_63 rfl ?_
    refine K_iload_n (q := 65) 2 dX12_begins_64 rfl rfl rfl ?_
    refine K_iast (q := 66) dX12_begins_65 rfl (fun M3 => ?_)
    refine K_aload_n (q := 67) 0 dX12_begins_66 rfl rfl rfl ?_
    refine K_getR (q := 70) (ci := 7) (a2 := 201) 0 dX12_begins_67 fRX12_9 rfl rfl (by decide) rfl rfl ?_
    refine K_sipush (q := 73) (v := nI 298) dX12_begins_70 rfl rfl ?_
    refine K_iload_n (q := 74) 1 dX12_begins_73 rfl rfl rfl ?_
    refine K_iadd (q := 75) dX12_begins_74 rfl ?_
    refine K_iload_n (q := 76) 3 dX12_begins_75 rfl rfl rfl ?_
    refine K_iast (q := 77) dX12_begins_76 rfl (fun M4 => ?_)
    refine K_aload_n (q := 78) 0 dX12_begins_77 rfl rfl rfl ?_
    refine K_getR (q := 81) (ci := 7) (a2 := 201) 0 dX12_begins_78 fRX12_9 rfl rfl (by decide) rfl rfl ?_
    refine K_sipush (q := 84) (v := nI 304) dX12_begins_81 rfl rfl ?_
    refine K_iload_n (q := 85) 1 dX12_begins_84 rfl rfl rfl ?_
    refine K_iadd (q := 86) dX12_begins_85 rfl ?_
    refine K_iload (q := 88) 4 dX12_begins_86 rfl rfl ?_
    refine K_iast (q := 89) dX12_begins_88 rfl (fun M5 => ?_)
    refine K_aload_n (q := 90) 0 dX12_begins_89 rfl rfl rfl ?_
    refine K_getR (q := 93) (ci := 7) (a2 := 201) 0 dX12_begins_90 fRX12_9 rfl rfl (by decide) rfl rfl ?_
    refine K_sipush (q := 96) (v := nI 526) dX12_begins_93 rfl rfl ?_
    refine K_iload_n (q := 97) 1 dX12_begins_96 rfl rfl rfl ?_
    refine K_iadd (q := 98) dX12_begins_97 rfl ?_
    refine K_iconst (q := 99) (v := nI 1) dX12_begins_98 rfl rfl ?_
    refine K_iast (q := 100) dX12_begins_99 rfl (fun M6 => ?_)
    refine K_aload_n (q := 101) 0 dX12_begins_100 rfl rfl rfl ?_
    refine K_getR (q := 104) (ci := 7) (a2 := 201) 0 dX12_begins_101 fRX12_9 rfl rfl (by decide) rfl rfl ?_
    refine K_sipush (q := 107) (v := nI 532) dX12_begins_104 rfl rfl ?_
    refine K_iload_n (q := 108) 1 dX12_begins_107 rfl rfl rfl ?_
    refine K_iadd (q := 109) dX12_begins_108 rfl ?_
    refine K_aload_n (q := 110) 0 dX12_begins_109 rfl rfl rfl ?_
    refine K_getR (q := 113) (ci := 7) (a2 := 201) 0 dX12_begins_110 fRX12_9 rfl rfl (by decide) rfl rfl ?_
    refine K_iconst (q := 114) (v := nI 5) dX12_begins_113 rfl rfl ?_
    refine K_iald (q := 115) dX12_begins_114 rfl (fun v7 => ?_)
    refine K_iast (q := 116) dX12_begins_115 rfl (fun M8 => ?_)
    refine K_aload_n (q := 117) 0 dX12_begins_116 rfl rfl rfl ?_
    refine K_getR (q := 120) (ci := 7) (a2 := 201) 0 dX12_begins_117 fRX12_9 rfl rfl (by decide) rfl rfl ?_
    refine K_sipush (q := 123) (v := nI 6730) dX12_begins_120 rfl rfl ?_
    refine K_iload_n (q := 124) 1 dX12_begins_123 rfl rfl rfl ?_
    refine K_iadd (q := 125) dX12_begins_124 rfl ?_
    refine K_aload_n (q := 126) 0 dX12_begins_125 rfl rfl rfl ?_
    refine K_getR (q := 129) (ci := 7) (a2 := 201) 0 dX12_begins_126 fRX12_9 rfl rfl (by decide) rfl rfl ?_
    refine K_iconst (q := 130) (v := nI 5) dX12_begins_129 rfl rfl ?_
    refine K_iald (q := 131) dX12_begins_130 rfl (fun v9 => ?_)
    refine K_iast (q := 132) dX12_begins_131 rfl (fun M10 => ?_)
    refine K_aload_n (q := 133) 0 dX12_begins_132 rfl rfl rfl ?_
    refine K_getR (q := 136) (ci := 7) (a2 := 201) 0 dX12_begins_133 fRX12_9 rfl rfl (by decide) rfl rfl ?_
    refine K_sipush (q := 139) (v := nI 310) dX12_begins_136 rfl rfl ?_
    refine K_iload_n (q := 140) 1 dX12_begins_139 rfl rfl rfl ?_
    refine K_iadd (q := 141) dX12_begins_140 rfl ?_
    refine K_iconst (q := 142) (v := nI 0) dX12_begins_141 rfl rfl ?_
    refine K_iast (q := 143) dX12_begins_142 rfl (fun M11 => ?_)
    refine K_aload_n (q := 144) 0 dX12_begins_143 rfl rfl rfl ?_
    refine K_iconst (q := 145) (v := nI 1) dX12_begins_144 rfl rfl ?_
    refine K_iload_n (q := 146) 1 dX12_begins_145 rfl rfl rfl ?_
    refine K_iload_n (q := 147) 2 dX12_begins_146 rfl rfl rfl ?_
    refine K_cvv (q := 150) [.inl ((nI 1)), .inl (l1), .inl (l2)] dX12_begins_147 cb_X12_notes cvRX12_122 rc_7 (show (17 : Nat) ≠ 0 by decide) rfl (Nat.le_of_ble_eq_true rfl) ⟨by decide, by decide⟩ (Nat.le_of_ble_eq_true rfl) rfl (tX12_notes (nI 1) l1 l2 M11) rfl (fun M12 => ?_)
    refine K_aload_n (q := 151) 0 dX12_begins_150 rfl rfl rfl ?_
    refine K_iload_n (q := 152) 1 dX12_begins_151 rfl rfl rfl ?_
    refine K_cvv (q := 155) [.inl (l1)] dX12_begins_152 cb_X12_asks cvRX12_146 rc_7 (show (17 : Nat) ≠ 0 by decide) rfl (Nat.le_of_ble_eq_true rfl) ⟨by decide, by decide⟩ (Nat.le_of_ble_eq_true rfl) rfl (tX12_asks l1 M12) rfl (fun M13 => ?_)
    refine K_iconst (q := 156) (v := nI 0) dX12_begins_155 rfl rfl ?_
    exact J_zret dX12_begins_156 (by decide)
  · refine K_aload_n (q := 11) 0 dX12_begins_10 rfl rfl rfl ?_
    refine K_getR (q := 14) (ci := 7) (a2 := 201) 0 dX12_begins_11 fRX12_9 rfl rfl (by decide) rfl rfl ?_
    refine K_bipush (q := 16) (v := nI 9) dX12_begins_14 rfl rfl ?_
    refine K_dup2 (q := 17) dX12_begins_16 rfl ?_
    refine K_iald (q := 18) dX12_begins_17 rfl (fun v14 => ?_)
    refine K_iconst (q := 19) (v := nI 1) dX12_begins_18 rfl rfl ?_
    refine K_iadd (q := 20) dX12_begins_19 rfl ?_
    refine K_iast (q := 21) dX12_begins_20 rfl (fun M15 => ?_)
    refine K_aload_n (q := 22) 0 dX12_begins_21 rfl rfl rfl ?_
    refine K_getR (q := 25) (ci := 7) (a2 := 201) 0 dX12_begins_22 fRX12_9 rfl rfl (by decide) rfl rfl ?_
    refine K_sipush (q := 28) (v := nI 6736) dX12_begins_25 rfl rfl ?_
    refine K_iconst (q := 29) (v := nI 5) dX12_begins_28 rfl rfl ?_
    refine K_iload_n (q := 30) 1 dX12_begins_29 rfl rfl rfl ?_
    refine K_imul (q := 31) dX12_begins_30 rfl ?_
    refine K_iadd (q := 32) dX12_begins_31 rfl ?_
    refine K_dup2 (q := 33) dX12_begins_32 rfl ?_
    refine K_iald (q := 34) dX12_begins_33 rfl (fun v16 => ?_)
    refine K_iconst (q := 35) (v := nI 1) dX12_begins_34 rfl rfl ?_
    refine K_iadd (q := 36) dX12_begins_35 rfl ?_
    refine K_iast (q := 37) dX12_begins_36 rfl (fun M17 => ?_)
    refine K_aload_n (q := 38) 0 dX12_begins_37 rfl rfl rfl ?_
    refine K_iconst (q := 39) (v := nI 0) dX12_begins_38 rfl rfl ?_
    refine K_iload_n (q := 40) 1 dX12_begins_39 rfl rfl rfl ?_
    refine K_iload_n (q := 41) 2 dX12_begins_40 rfl rfl rfl ?_
    refine K_cvv (q := 44) [.inl ((nI 0)), .inl (l1), .inl (l2)] dX12_begins_41 cb_X12_notes cvRX12_122 rc_7 (show (17 : Nat) ≠ 0 by decide) rfl (Nat.le_of_ble_eq_true rfl) ⟨by decide, by decide⟩ (Nat.le_of_ble_eq_true rfl) rfl (tX12_notes (nI 0) l1 l2 M17) rfl (fun M18 => ?_)
    refine K_aload_n (q := 45) 0 dX12_begins_44 rfl rfl rfl ?_
    refine K_iload_n (q := 46) 1 dX12_begins_45 rfl rfl rfl ?_
    refine K_iload_n (q := 47) 2 dX12_begins_46 rfl rfl rfl ?_
    refine K_iload_n (q := 48) 3 dX12_begins_47 rfl rfl rfl ?_
    refine K_iload (q := 50) 4 dX12_begins_48 rfl rfl ?_
    refine K_cvv (q := 53) [.inl (l1), .inl (l2), .inl (l3), .inl (l4)] dX12_begins_50 cb_X12_does cvRX12_137 rc_7 (show (17 : Nat) ≠ 0 by decide) rfl (Nat.le_of_ble_eq_true rfl) ⟨by decide, by decide⟩ (Nat.le_of_ble_eq_true rfl) rfl (tX12_does l1 l2 l3 l4 M18) rfl (fun M19 => ?_)
    refine K_iconst (q := 54) (v := nI 1) dX12_begins_53 rfl rfl ?_
    exact J_zret dX12_begins_54 (by decide)
theorem dX12_isIn_0 : decode cX12_isIn 0 = .ok (.iload_n 0, 1) := by decide +kernel
theorem dX12_isIn_1 : decode cX12_isIn 1 = .ok (.iload_n 1, 1) := by decide +kernel
theorem dX12_isIn_2 : decode cX12_isIn 2 = .ok (.if_icmp .lt 12, 3) := by decide +kernel
theorem dX12_isIn_5 : decode cX12_isIn 5 = .ok (.iload_n 0, 1) := by decide +kernel
theorem dX12_isIn_6 : decode cX12_isIn 6 = .ok (.iload_n 2, 1) := by decide +kernel
theorem dX12_isIn_7 : decode cX12_isIn 7 = .ok (.if_icmp .gt 7, 3) := by decide +kernel
theorem dX12_isIn_10 : decode cX12_isIn 10 = .ok (.iconst 1, 1) := by decide +kernel
theorem dX12_isIn_11 : decode cX12_isIn 11 = .ok (.goto 4, 3) := by decide +kernel
theorem dX12_isIn_14 : decode cX12_isIn 14 = .ok (.iconst 0, 1) := by decide +kernel
theorem dX12_isIn_15 : decode cX12_isIn 15 = .ok (.ireturn, 1) := by decide +kernel
def xX12_isIn  (l0 : Int32) (l1 : Int32) (l2 : Int32) (M : j_M) : Option (Int32 × j_M) := (if l0 < l1 then some ((nI 0), M) else (if l2 < l0 then some ((nI 0), M) else some ((nI 1), M)))
set_option maxRecDepth 20000 in
set_option maxHeartbeats 2000000 in
theorem tX12_isIn  (l0 : Int32) (l1 : Int32) (l2 : Int32) (M : j_M) : J (ρ := Int32 × j_M) yX12_isIn cX12_isIn 3 (some .boolean) 0 0 j_ei 0 [(0, .inl (l0)), (1, .inl (l1)), (2, .inl (l2))] [] M (xX12_isIn  l0 l1 l2 M) := by
  unfold xX12_isIn
  refine K_iload_n (q := 1) 0 dX12_isIn_0 rfl rfl rfl ?_
  refine K_iload_n (q := 2) 1 dX12_isIn_1 rfl rfl rfl ?_
  refine K_icmp_lt (q := 5) (tgt := 14) dX12_isIn_2 rfl ?_ rfl ?_
  · refine K_iconst (q := 15) (v := nI 0) dX12_isIn_14 rfl rfl ?_
    exact J_zret dX12_isIn_15 (by decide)
  · refine K_iload_n (q := 6) 0 dX12_isIn_5 rfl rfl rfl ?_
    refine K_iload_n (q := 7) 2 dX12_isIn_6 rfl rfl rfl ?_
    refine K_icmp_gt (q := 10) (tgt := 14) dX12_isIn_7 rfl ?_ rfl ?_
    · refine K_iconst (q := 15) (v := nI 0) dX12_isIn_14 rfl rfl ?_
      exact J_zret dX12_isIn_15 (by decide)
    · refine K_iconst (q := 11) (v := nI 1) dX12_isIn_10 rfl rfl ?_
      refine J_goto (tgt := 15) dX12_isIn_11 rfl ?_
      exact J_zret dX12_isIn_15 (by decide)
theorem dX12_isCpu_0 : decode cX12_isCpu 0 = .ok (.iload_n 1, 1) := by decide +kernel
theorem dX12_isCpu_1 : decode cX12_isCpu 1 = .ok (.iconst 0, 1) := by decide +kernel
theorem dX12_isCpu_2 : decode cX12_isCpu 2 = .ok (.aload_n 0, 1) := by decide +kernel
theorem dX12_isCpu_3 : decode cX12_isCpu 3 = .ok (.getfield 9, 3) := by decide +kernel
theorem dX12_isCpu_6 : decode cX12_isCpu 6 = .ok (.iconst 0, 1) := by decide +kernel
theorem dX12_isCpu_7 : decode cX12_isCpu 7 = .ok (.iaload, 1) := by decide +kernel
theorem dX12_isCpu_8 : decode cX12_isCpu 8 = .ok (.iconst 1, 1) := by decide +kernel
theorem dX12_isCpu_9 : decode cX12_isCpu 9 = .ok (.isub, 1) := by decide +kernel
theorem dX12_isCpu_10 : decode cX12_isCpu 10 = .ok (.invokestatic 65, 3) := by decide +kernel
theorem dX12_isCpu_13 : decode cX12_isCpu 13 = .ok (.ireturn, 1) := by decide +kernel
def xX12_isCpu  (l1 : Int32) (M : j_M) : Option (Int32 × j_M) := gd (nI 0) 7460 (oli (M 201 (ix (nI 0))) fun v1 => obi (xX12_isIn l1 (nI 0) (v1 - (nI 1)) M) fun v3 M2 => gz v3 (some (v3, M2)))
set_option maxRecDepth 20000 in
set_option maxHeartbeats 2000000 in
theorem tX12_isCpu  (l1 : Int32) (M : j_M) : J (ρ := Int32 × j_M) yX12_isCpu cX12_isCpu 2 (some .boolean) 1 22 j_ei 0 [(0, .inr (17, 0, 200)), (1, .inl (l1))] [] M (xX12_isCpu  l1 M) := by
  unfold xX12_isCpu
  refine K_iload_n (q := 1) 1 dX12_isCpu_0 rfl rfl rfl ?_
  refine K_iconst (q := 2) (v := nI 0) dX12_isCpu_1 rfl rfl ?_
  refine K_aload_n (q := 3) 0 dX12_isCpu_2 rfl rfl rfl ?_
  refine K_getR (q := 6) (ci := 7) (a2 := 201) 0 dX12_isCpu_3 fRX12_9 rfl rfl (by decide) rfl rfl ?_
  refine K_iconst (q := 7) (v := nI 0) dX12_isCpu_6 rfl rfl ?_
  refine K_iald (q := 8) dX12_isCpu_7 rfl (fun v1 => ?_)
  refine K_iconst (q := 9) (v := nI 1) dX12_isCpu_8 rfl rfl ?_
  refine K_isub (q := 10) dX12_isCpu_9 rfl ?_
  refine K_csi (q := 13) [.inl (l1), .inl ((nI 0)), .inl (v1 - (nI 1))] dX12_isCpu_10 cb_X12_isIn cvRX12_65 rfl (Nat.le_of_ble_eq_true rfl) ⟨by decide, by decide⟩ (Nat.le_of_ble_eq_true rfl) rfl (tX12_isIn l1 (nI 0) (v1 - (nI 1)) M) rfl (fun v3 M2 => ?_)
  exact J_zretG dX12_isCpu_13
theorem dX12_isLine_0 : decode cX12_isLine 0 = .ok (.iload_n 0, 1) := by decide +kernel
theorem dX12_isLine_1 : decode cX12_isLine 1 = .ok (.iconst 0, 1) := by decide +kernel
theorem dX12_isLine_2 : decode cX12_isLine 2 = .ok (.bipush 7, 2) := by decide +kernel
theorem dX12_isLine_4 : decode cX12_isLine 4 = .ok (.invokestatic 65, 3) := by decide +kernel
theorem dX12_isLine_7 : decode cX12_isLine 7 = .ok (.ireturn, 1) := by decide +kernel
def xX12_isLine  (l0 : Int32) (M : j_M) : Option (Int32 × j_M) := obi (xX12_isIn l0 (nI 0) (nI 7) M) fun v2 M1 => gz v2 (some (v2, M1))
set_option maxRecDepth 20000 in
set_option maxHeartbeats 2000000 in
theorem tX12_isLine  (l0 : Int32) (M : j_M) : J (ρ := Int32 × j_M) yX12_isLine cX12_isLine 1 (some .boolean) 1 22 j_ei 0 [(0, .inl (l0))] [] M (xX12_isLine  l0 M) := by
  unfold xX12_isLine
  refine K_iload_n (q := 1) 0 dX12_isLine_0 rfl rfl rfl ?_
  refine K_iconst (q := 2) (v := nI 0) dX12_isLine_1 rfl rfl ?_
  refine K_bipush (q := 4) (v := nI 7) dX12_isLine_2 rfl rfl ?_
  refine K_csi (q := 7) [.inl (l0), .inl ((nI 0)), .inl ((nI 7))] dX12_isLine_4 cb_X12_isIn cvRX12_65 rfl (Nat.le_of_ble_eq_true rfl) ⟨by decide, by decide⟩ (Nat.le_of_ble_eq_true rfl) rfl (tX12_isIn l0 (nI 0) (nI 7) M) rfl (fun v2 M1 => ?_)
  exact J_zretG dX12_isLine_7
theorem dX12_can_0 : decode cX12_can 0 = .ok (.aload_n 0, 1) := by decide +kernel
theorem dX12_can_1 : decode cX12_can 1 = .ok (.iload_n 1, 1) := by decide +kernel
theorem dX12_can_2 : decode cX12_can 2 = .ok (.invokevirtual 69, 3) := by decide +kernel
theorem dX12_can_5 : decode cX12_can 5 = .ok (.ifCond .eq 39, 3) := by decide +kernel
theorem dX12_can_8 : decode cX12_can 8 = .ok (.iload_n 2, 1) := by decide +kernel
theorem dX12_can_9 : decode cX12_can 9 = .ok (.invokestatic 140, 3) := by decide +kernel
theorem dX12_can_12 : decode cX12_can 12 = .ok (.ifCond .eq 32, 3) := by decide +kernel
theorem dX12_can_15 : decode cX12_can 15 = .ok (.aload_n 0, 1) := by decide +kernel
theorem dX12_can_16 : decode cX12_can 16 = .ok (.getfield 9, 3) := by decide +kernel
theorem dX12_can_19 : decode cX12_can 19 = .ok (.sipush 292, 3) := by decide +kernel
theorem dX12_can_22 : decode cX12_can 22 = .ok (.iload_n 1, 1) := by decide +kernel
theorem dX12_can_23 : decode cX12_can 23 = .ok (.iadd, 1) := by decide +kernel
theorem dX12_can_24 : decode cX12_can 24 = .ok (.iaload, 1) := by decide +kernel
theorem dX12_can_25 : decode cX12_can 25 = .ok (.iconst (-1), 1) := by decide +kernel
theorem dX12_can_26 : decode cX12_can 26 = .ok (.if_icmp .ne 18, 3) := by decide +kernel
theorem dX12_can_29 : decode cX12_can 29 = .ok (.iload_n 3, 1) := by decide +kernel
theorem dX12_can_30 : decode cX12_can 30 = .ok (.iconst 0, 1) := by decide +kernel
theorem dX12_can_31 : decode cX12_can 31 = .ok (.sipush 9999, 3) := by decide +kernel
theorem dX12_can_34 : decode cX12_can 34 = .ok (.invokestatic 65, 3) := by decide +kernel
theorem dX12_can_37 : decode cX12_can 37 = .ok (.ifCond .eq 7, 3) := by decide +kernel
theorem dX12_can_40 : decode cX12_can 40 = .ok (.iconst 1, 1) := by decide +kernel
theorem dX12_can_41 : decode cX12_can 41 = .ok (.goto 4, 3) := by decide +kernel
theorem dX12_can_44 : decode cX12_can 44 = .ok (.iconst 0, 1) := by decide +kernel
theorem dX12_can_45 : decode cX12_can 45 = .ok (.ireturn, 1) := by decide +kernel
def xX12_can  (l1 : Int32) (l2 : Int32) (l3 : Int32) (M : j_M) : Option (Int32 × j_M) := obi (xX12_isCpu l1 M) fun v2 M1 => (if v2 = (0 : Int32) then some ((nI 0), M1) else obi (xX12_isLine l2 M1) fun v4 M3 => (if v4 = (0 : Int32) then some ((nI 0), M3) else gd ((nI 292) + l1) 7460 (oli (M3 201 (ix ((nI 292) + l1))) fun v5 => (if v5 = (-1 : Int32) then obi (xX12_isIn l3 (nI 0) (nI 9999) M3) fun v7 M6 => (if v7 = (0 : Int32) then some ((nI 0), M6) else some ((nI 1), M6)) else some ((nI 0), M3)))))
set_option maxRecDepth 20000 in
set_option maxHeartbeats 2000000 in
theorem tX12_can  (l1 : Int32) (l2 : Int32) (l3 : Int32) (M : j_M) : J (ρ := Int32 × j_M) yX12_can cX12_can 4 (some .boolean) 2 43 j_ei 0 [(0, .inr (17, 0, 200)), (1, .inl (l1)), (2, .inl (l2)), (3, .inl (l3))] [] M (xX12_can  l1 l2 l3 M) := by
  unfold xX12_can
  refine K_aload_n (q := 1) 0 dX12_can_0 rfl rfl rfl ?_
  refine K_iload_n (q := 2) 1 dX12_can_1 rfl rfl rfl ?_
  refine K_cvi (q := 5) [.inl (l1)] dX12_can_2 cb_X12_isCpu cvRX12_69 rc_7 (show (17 : Nat) ≠ 0 by decide) rfl (Nat.le_of_ble_eq_true rfl) ⟨by decide, by decide⟩ (Nat.le_of_ble_eq_true rfl) rfl (tX12_isCpu l1 M) rfl (fun v2 M1 => ?_)
  refine K_if_eq (q := 8) (tgt := 44) dX12_can_5 rfl ?_ rfl ?_
  · refine K_iconst (q := 45) (v := nI 0) dX12_can_44 rfl rfl ?_
    exact J_zret dX12_can_45 (by decide)
  · refine K_iload_n (q := 9) 2 dX12_can_8 rfl rfl rfl ?_
    refine K_csi (q := 12) [.inl (l2)] dX12_can_9 cb_X12_isLine cvRX12_140 rfl (Nat.le_of_ble_eq_true rfl) ⟨by decide, by decide⟩ (Nat.le_of_ble_eq_true rfl) rfl (tX12_isLine l2 M1) rfl (fun v4 M3 => ?_)
    refine K_if_eq (q := 15) (tgt := 44) dX12_can_12 rfl ?_ rfl ?_
    · refine K_iconst (q := 45) (v := nI 0) dX12_can_44 rfl rfl ?_
      exact J_zret dX12_can_45 (by decide)
    · refine K_aload_n (q := 16) 0 dX12_can_15 rfl rfl rfl ?_
      refine K_getR (q := 19) (ci := 7) (a2 := 201) 0 dX12_can_16 fRX12_9 rfl rfl (by decide) rfl rfl ?_
      refine K_sipush (q := 22) (v := nI 292) dX12_can_19 rfl rfl ?_
      refine K_iload_n (q := 23) 1 dX12_can_22 rfl rfl rfl ?_
      refine K_iadd (q := 24) dX12_can_23 rfl ?_
      refine K_iald (q := 25) dX12_can_24 rfl (fun v5 => ?_)
      refine K_iconst (q := 26) (v := -1) dX12_can_25 rfl rfl ?_
      refine K_icmp_ne (q := 29) (tgt := 44) dX12_can_26 rfl ?_ rfl ?_
      · refine K_iconst (q := 45) (v := nI 0) dX12_can_44 rfl rfl ?_
        exact J_zret dX12_can_45 (by decide)
      · refine K_iload_n (q := 30) 3 dX12_can_29 rfl rfl rfl ?_
        refine K_iconst (q := 31) (v := nI 0) dX12_can_30 rfl rfl ?_
        refine K_sipush (q := 34) (v := nI 9999) dX12_can_31 rfl rfl ?_
        refine K_csi (q := 37) [.inl (l3), .inl ((nI 0)), .inl ((nI 9999))] dX12_can_34 cb_X12_isIn cvRX12_65 rfl (Nat.le_of_ble_eq_true rfl) ⟨by decide, by decide⟩ (Nat.le_of_ble_eq_true rfl) rfl (tX12_isIn l3 (nI 0) (nI 9999) M3) rfl (fun v7 M6 => ?_)
        refine K_if_eq (q := 40) (tgt := 44) dX12_can_37 rfl ?_ rfl ?_
        · refine K_iconst (q := 45) (v := nI 0) dX12_can_44 rfl rfl ?_
          exact J_zret dX12_can_45 (by decide)
        · refine K_iconst (q := 41) (v := nI 1) dX12_can_40 rfl rfl ?_
          refine J_goto (tgt := 45) dX12_can_41 rfl ?_
          exact J_zret dX12_can_45 (by decide)
theorem dX12_add_0 : decode cX12_add 0 = .ok (.aload_n 0, 1) := by decide +kernel
theorem dX12_add_1 : decode cX12_add 1 = .ok (.iload_n 1, 1) := by decide +kernel
theorem dX12_add_2 : decode cX12_add 2 = .ok (.iload_n 2, 1) := by decide +kernel
theorem dX12_add_3 : decode cX12_add 3 = .ok (.iload_n 3, 1) := by decide +kernel
theorem dX12_add_4 : decode cX12_add 4 = .ok (.invokevirtual 149, 3) := by decide +kernel
theorem dX12_add_7 : decode cX12_add 7 = .ok (.ifCond .eq 22, 3) := by decide +kernel
theorem dX12_add_10 : decode cX12_add 10 = .ok (.aload_n 0, 1) := by decide +kernel
theorem dX12_add_11 : decode cX12_add 11 = .ok (.iload_n 1, 1) := by decide +kernel
theorem dX12_add_12 : decode cX12_add 12 = .ok (.iload_n 2, 1) := by decide +kernel
theorem dX12_add_13 : decode cX12_add 13 = .ok (.iconst 3, 1) := by decide +kernel
theorem dX12_add_14 : decode cX12_add 14 = .ok (.iload_n 3, 1) := by decide +kernel
theorem dX12_add_15 : decode cX12_add 15 = .ok (.invokevirtual 152, 3) := by decide +kernel
theorem dX12_add_18 : decode cX12_add 18 = .ok (.ifCond .eq 7, 3) := by decide +kernel
theorem dX12_add_21 : decode cX12_add 21 = .ok (.iconst 1, 1) := by decide +kernel
theorem dX12_add_22 : decode cX12_add 22 = .ok (.goto 8, 3) := by decide +kernel
theorem dX12_add_25 : decode cX12_add 25 = .ok (.iconst 0, 1) := by decide +kernel
theorem dX12_add_26 : decode cX12_add 26 = .ok (.goto 4, 3) := by decide +kernel
theorem dX12_add_29 : decode cX12_add 29 = .ok (.iconst (-1), 1) := by decide +kernel
theorem dX12_add_30 : decode cX12_add 30 = .ok (.ireturn, 1) := by decide +kernel
def xX12_add  (l1 : Int32) (l2 : Int32) (l3 : Int32) (M : j_M) : Option (Int32 × j_M) := obi (xX12_can l1 l2 l3 M) fun v2 M1 => (if v2 = (0 : Int32) then some ((-1 : Int32), M1) else obi (xX12_begins l1 l2 (nI 3) l3 M1) fun v4 M3 => (if v4 = (0 : Int32) then some ((nI 0), M3) else some ((nI 1), M3)))
set_option maxRecDepth 20000 in
set_option maxHeartbeats 2000000 in
theorem tX12_add  (l1 : Int32) (l2 : Int32) (l3 : Int32) (M : j_M) : J (ρ := Int32 × j_M) yX12_add cX12_add 4 (some .int) 6 139 j_ei 0 [(0, .inr (17, 0, 200)), (1, .inl (l1)), (2, .inl (l2)), (3, .inl (l3))] [] M (xX12_add  l1 l2 l3 M) := by
  unfold xX12_add
  refine K_aload_n (q := 1) 0 dX12_add_0 rfl rfl rfl ?_
  refine K_iload_n (q := 2) 1 dX12_add_1 rfl rfl rfl ?_
  refine K_iload_n (q := 3) 2 dX12_add_2 rfl rfl rfl ?_
  refine K_iload_n (q := 4) 3 dX12_add_3 rfl rfl rfl ?_
  refine K_cvi (q := 7) [.inl (l1), .inl (l2), .inl (l3)] dX12_add_4 cb_X12_can cvRX12_149 rc_7 (show (17 : Nat) ≠ 0 by decide) rfl (Nat.le_of_ble_eq_true rfl) ⟨by decide, by decide⟩ (Nat.le_of_ble_eq_true rfl) rfl (tX12_can l1 l2 l3 M) rfl (fun v2 M1 => ?_)
  refine K_if_eq (q := 10) (tgt := 29) dX12_add_7 rfl ?_ rfl ?_
  · refine K_iconst (q := 30) (v := -1) dX12_add_29 rfl rfl ?_
    exact J_iret dX12_add_30
  · refine K_aload_n (q := 11) 0 dX12_add_10 rfl rfl rfl ?_
    refine K_iload_n (q := 12) 1 dX12_add_11 rfl rfl rfl ?_
    refine K_iload_n (q := 13) 2 dX12_add_12 rfl rfl rfl ?_
    refine K_iconst (q := 14) (v := nI 3) dX12_add_13 rfl rfl ?_
    refine K_iload_n (q := 15) 3 dX12_add_14 rfl rfl rfl ?_
    refine K_cvi (q := 18) [.inl (l1), .inl (l2), .inl ((nI 3)), .inl (l3)] dX12_add_15 cb_X12_begins cvRX12_152 rc_7 (show (17 : Nat) ≠ 0 by decide) rfl (Nat.le_of_ble_eq_true rfl) ⟨by decide, by decide⟩ (Nat.le_of_ble_eq_true rfl) rfl (tX12_begins l1 l2 (nI 3) l3 M1) rfl (fun v4 M3 => ?_)
    refine K_if_eq (q := 21) (tgt := 25) dX12_add_18 rfl ?_ rfl ?_
    · refine K_iconst (q := 26) (v := nI 0) dX12_add_25 rfl rfl ?_
      refine J_goto (tgt := 30) dX12_add_26 rfl ?_
      exact J_iret dX12_add_30
    · refine K_iconst (q := 22) (v := nI 1) dX12_add_21 rfl rfl ?_
      refine J_goto (tgt := 30) dX12_add_22 rfl ?_
      exact J_iret dX12_add_30
theorem dX12_brings_0 : decode cX12_brings 0 = .ok (.aload_n 0, 1) := by decide +kernel
theorem dX12_brings_1 : decode cX12_brings 1 = .ok (.getfield 9, 3) := by decide +kernel
theorem dX12_brings_4 : decode cX12_brings 4 = .ok (.iload_n 1, 1) := by decide +kernel
theorem dX12_brings_5 : decode cX12_brings 5 = .ok (.iconst 4, 1) := by decide +kernel
theorem dX12_brings_6 : decode cX12_brings 6 = .ok (.iadd, 1) := by decide +kernel
theorem dX12_brings_7 : decode cX12_brings 7 = .ok (.iload_n 2, 1) := by decide +kernel
theorem dX12_brings_8 : decode cX12_brings 8 = .ok (.iastore, 1) := by decide +kernel
theorem dX12_brings_9 : decode cX12_brings 9 = .ok (.aload_n 0, 1) := by decide +kernel
theorem dX12_brings_10 : decode cX12_brings 10 = .ok (.getfield 9, 3) := by decide +kernel
theorem dX12_brings_13 : decode cX12_brings 13 = .ok (.iload_n 1, 1) := by decide +kernel
theorem dX12_brings_14 : decode cX12_brings 14 = .ok (.iconst 5, 1) := by decide +kernel
theorem dX12_brings_15 : decode cX12_brings 15 = .ok (.iadd, 1) := by decide +kernel
theorem dX12_brings_16 : decode cX12_brings 16 = .ok (.iload_n 3, 1) := by decide +kernel
theorem dX12_brings_17 : decode cX12_brings 17 = .ok (.iastore, 1) := by decide +kernel
theorem dX12_brings_18 : decode cX12_brings 18 = .ok (.aload_n 0, 1) := by decide +kernel
theorem dX12_brings_19 : decode cX12_brings 19 = .ok (.getfield 9, 3) := by decide +kernel
theorem dX12_brings_22 : decode cX12_brings 22 = .ok (.iload_n 1, 1) := by decide +kernel
theorem dX12_brings_23 : decode cX12_brings 23 = .ok (.bipush 6, 2) := by decide +kernel
theorem dX12_brings_25 : decode cX12_brings 25 = .ok (.iadd, 1) := by decide +kernel
theorem dX12_brings_26 : decode cX12_brings 26 = .ok (.iload 4, 2) := by decide +kernel
theorem dX12_brings_28 : decode cX12_brings 28 = .ok (.iastore, 1) := by decide +kernel
theorem dX12_brings_29 : decode cX12_brings 29 = .ok (.sipush 6814, 3) := by decide +kernel
theorem dX12_brings_32 : decode cX12_brings 32 = .ok (.iconst 3, 1) := by decide +kernel
theorem dX12_brings_33 : decode cX12_brings 33 = .ok (.bipush 7, 2) := by decide +kernel
theorem dX12_brings_35 : decode cX12_brings 35 = .ok (.aload_n 0, 1) := by decide +kernel
theorem dX12_brings_36 : decode cX12_brings 36 = .ok (.getfield 9, 3) := by decide +kernel
theorem dX12_brings_39 : decode cX12_brings 39 = .ok (.iload_n 1, 1) := by decide +kernel
theorem dX12_brings_40 : decode cX12_brings 40 = .ok (.iconst 0, 1) := by decide +kernel
theorem dX12_brings_41 : decode cX12_brings 41 = .ok (.iadd, 1) := by decide +kernel
theorem dX12_brings_42 : decode cX12_brings 42 = .ok (.iaload, 1) := by decide +kernel
theorem dX12_brings_43 : decode cX12_brings 43 = .ok (.imul, 1) := by decide +kernel
theorem dX12_brings_44 : decode cX12_brings 44 = .ok (.aload_n 0, 1) := by decide +kernel
theorem dX12_brings_45 : decode cX12_brings 45 = .ok (.getfield 9, 3) := by decide +kernel
theorem dX12_brings_48 : decode cX12_brings 48 = .ok (.iload_n 1, 1) := by decide +kernel
theorem dX12_brings_49 : decode cX12_brings 49 = .ok (.iconst 1, 1) := by decide +kernel
theorem dX12_brings_50 : decode cX12_brings 50 = .ok (.iadd, 1) := by decide +kernel
theorem dX12_brings_51 : decode cX12_brings 51 = .ok (.iaload, 1) := by decide +kernel
theorem dX12_brings_52 : decode cX12_brings 52 = .ok (.iadd, 1) := by decide +kernel
theorem dX12_brings_53 : decode cX12_brings 53 = .ok (.imul, 1) := by decide +kernel
theorem dX12_brings_54 : decode cX12_brings 54 = .ok (.iadd, 1) := by decide +kernel
theorem dX12_brings_55 : decode cX12_brings 55 = .ok (.istore 5, 2) := by decide +kernel
theorem dX12_brings_57 : decode cX12_brings 57 = .ok (.aload_n 0, 1) := by decide +kernel
theorem dX12_brings_58 : decode cX12_brings 58 = .ok (.getfield 9, 3) := by decide +kernel
theorem dX12_brings_61 : decode cX12_brings 61 = .ok (.iload 5, 2) := by decide +kernel
theorem dX12_brings_63 : decode cX12_brings 63 = .ok (.iconst 1, 1) := by decide +kernel
theorem dX12_brings_64 : decode cX12_brings 64 = .ok (.iadd, 1) := by decide +kernel
theorem dX12_brings_65 : decode cX12_brings 65 = .ok (.dup2, 1) := by decide +kernel
theorem dX12_brings_66 : decode cX12_brings 66 = .ok (.iaload, 1) := by decide +kernel
theorem dX12_brings_67 : decode cX12_brings 67 = .ok (.iload_n 2, 1) := by decide +kernel
theorem dX12_brings_68 : decode cX12_brings 68 = .ok (.iadd, 1) := by decide +kernel
theorem dX12_brings_69 : decode cX12_brings 69 = .ok (.iastore, 1) := by decide +kernel
theorem dX12_brings_70 : decode cX12_brings 70 = .ok (.aload_n 0, 1) := by decide +kernel
theorem dX12_brings_71 : decode cX12_brings 71 = .ok (.getfield 9, 3) := by decide +kernel
theorem dX12_brings_74 : decode cX12_brings 74 = .ok (.iload 5, 2) := by decide +kernel
theorem dX12_brings_76 : decode cX12_brings 76 = .ok (.iconst 2, 1) := by decide +kernel
theorem dX12_brings_77 : decode cX12_brings 77 = .ok (.iadd, 1) := by decide +kernel
theorem dX12_brings_78 : decode cX12_brings 78 = .ok (.dup2, 1) := by decide +kernel
theorem dX12_brings_79 : decode cX12_brings 79 = .ok (.iaload, 1) := by decide +kernel
theorem dX12_brings_80 : decode cX12_brings 80 = .ok (.iload 4, 2) := by decide +kernel
theorem dX12_brings_82 : decode cX12_brings 82 = .ok (.iconst (-1), 1) := by decide +kernel
theorem dX12_brings_83 : decode cX12_brings 83 = .ok (.if_icmp .ne 7, 3) := by decide +kernel
theorem dX12_brings_86 : decode cX12_brings 86 = .ok (.iconst 0, 1) := by decide +kernel
theorem dX12_brings_87 : decode cX12_brings 87 = .ok (.goto 4, 3) := by decide +kernel
theorem dX12_brings_90 : decode cX12_brings 90 = .ok (.iconst 1, 1) := by decide +kernel
theorem dX12_brings_91 : decode cX12_brings 91 = .ok (.iadd, 1) := by decide +kernel
theorem dX12_brings_92 : decode cX12_brings 92 = .ok (.iastore, 1) := by decide +kernel
theorem dX12_brings_93 : decode cX12_brings 93 = .ok (.return_, 1) := by decide +kernel
def xX12_brings_91   (s2 : Int32) (s1 : Int32) (s0 : Int32) (M : j_M) : Option (j_M) := gd s2 7460 (oml (mw M 201 (ix s2) (s1 + s0)) fun M1 => some M1)
set_option maxRecDepth 20000 in
set_option maxHeartbeats 2000000 in
theorem tX12_brings_91    (s2 : Int32) (s1 : Int32) (s0 : Int32) (M : j_M) : J (ρ := j_M) yX12_brings cX12_brings 6 none 0 0 j_ev 91 [] [.inl (s0), .inl (s1), .inl (s2), .inr (1, 7460, 201)] M (xX12_brings_91  s2 s1 s0 M) := by
  unfold xX12_brings_91
  refine K_iadd (q := 92) dX12_brings_91 rfl ?_
  refine K_iast (q := 93) dX12_brings_92 rfl (fun M1 => ?_)
  exact J_vret dX12_brings_93
def xX12_brings  (l1 : Int32) (l2 : Int32) (l3 : Int32) (l4 : Int32) (M : j_M) : Option (j_M) := gd (l1 + (nI 4)) 7460 (oml (mw M 201 (ix (l1 + (nI 4))) l2) fun M1 => gd (l1 + (nI 5)) 7460 (oml (mw M1 201 (ix (l1 + (nI 5))) l3) fun M2 => gd (l1 + (nI 6)) 7460 (oml (mw M2 201 (ix (l1 + (nI 6))) l4) fun M3 => gd (l1 + (nI 0)) 7460 (oli (M3 201 (ix (l1 + (nI 0)))) fun v4 => gd (l1 + (nI 1)) 7460 (oli (M3 201 (ix (l1 + (nI 1)))) fun v5 => gd (((nI 6814) + ((nI 3) * (((nI 7) * v4) + v5))) + (nI 1)) 7460 (oli (M3 201 (ix (((nI 6814) + ((nI 3) * (((nI 7) * v4) + v5))) + (nI 1)))) fun v6 => gd (((nI 6814) + ((nI 3) * (((nI 7) * v4) + v5))) + (nI 1)) 7460 (oml (mw M3 201 (ix (((nI 6814) + ((nI 3) * (((nI 7) * v4) + v5))) + (nI 1))) (v6 + l2)) fun M7 => gd (((nI 6814) + ((nI 3) * (((nI 7) * v4) + v5))) + (nI 2)) 7460 (oli (M7 201 (ix (((nI 6814) + ((nI 3) * (((nI 7) * v4) + v5))) + (nI 2)))) fun v8 => (if l4 = (-1 : Int32) then xX12_brings_91  (((nI 6814) + ((nI 3) * (((nI 7) * v4) + v5))) + (nI 2)) v8 (nI 0) M7 else xX12_brings_91  (((nI 6814) + ((nI 3) * (((nI 7) * v4) + v5))) + (nI 2)) v8 (nI 1) M7)))))))))
set_option maxRecDepth 20000 in
set_option maxHeartbeats 2000000 in
theorem tX12_brings  (l1 : Int32) (l2 : Int32) (l3 : Int32) (l4 : Int32) (M : j_M) : J (ρ := j_M) yX12_brings cX12_brings 6 none 0 0 j_ev 0 [(0, .inr (17, 0, 200)), (1, .inl (l1)), (2, .inl (l2)), (3, .inl (l3)), (4, .inl (l4))] [] M (xX12_brings  l1 l2 l3 l4 M) := by
  unfold xX12_brings
  refine K_aload_n (q := 1) 0 dX12_brings_0 rfl rfl rfl ?_
  refine K_getR (q := 4) (ci := 7) (a2 := 201) 0 dX12_brings_1 fRX12_9 rfl rfl (by decide) rfl rfl ?_
  refine K_iload_n (q := 5) 1 dX12_brings_4 rfl rfl rfl ?_
  refine K_iconst (q := 6) (v := nI 4) dX12_brings_5 rfl rfl ?_
  refine K_iadd (q := 7) dX12_brings_6 rfl ?_
  refine K_iload_n (q := 8) 2 dX12_brings_7 rfl rfl rfl ?_
  refine K_iast (q := 9) dX12_brings_8 rfl (fun M1 => ?_)
  refine K_aload_n (q := 10) 0 dX12_brings_9 rfl rfl rfl ?_
  refine K_getR (q := 13) (ci := 7) (a2 := 201) 0 dX12_brings_10 fRX12_9 rfl rfl (by decide) rfl rfl ?_
  refine K_iload_n (q := 14) 1 dX12_brings_13 rfl rfl rfl ?_
  refine K_iconst (q := 15) (v := nI 5) dX12_brings_14 rfl rfl ?_
  refine K_iadd (q := 16) dX12_brings_15 rfl ?_
  refine K_iload_n (q := 17) 3 dX12_brings_16 rfl rfl rfl ?_
  refine K_iast (q := 18) dX12_brings_17 rfl (fun M2 => ?_)
  refine K_aload_n (q := 19) 0 dX12_brings_18 rfl rfl rfl ?_
  refine K_getR (q := 22) (ci := 7) (a2 := 201) 0 dX12_brings_19 fRX12_9 rfl rfl (by decide) rfl rfl ?_
  refine K_iload_n (q := 23) 1 dX12_brings_22 rfl rfl rfl ?_
  refine K_bipush (q := 25) (v := nI 6) dX12_brings_23 rfl rfl ?_
  refine K_iadd (q := 26) dX12_brings_25 rfl ?_
  refine K_iload (q := 28) 4 dX12_brings_26 rfl rfl ?_
  refine K_iast (q := 29) dX12_brings_28 rfl (fun M3 => ?_)
  refine K_sipush (q := 32) (v := nI 6814) dX12_brings_29 rfl rfl ?_
  refine K_iconst (q := 33) (v := nI 3) dX12_brings_32 rfl rfl ?_
  refine K_bipush (q := 35) (v := nI 7) dX12_brings_33 rfl rfl ?_
  refine K_aload_n (q := 36) 0 dX12_brings_35 rfl rfl rfl ?_
  refine K_getR (q := 39) (ci := 7) (a2 := 201) 0 dX12_brings_36 fRX12_9 rfl rfl (by decide) rfl rfl ?_
  refine K_iload_n (q := 40) 1 dX12_brings_39 rfl rfl rfl ?_
  refine K_iconst (q := 41) (v := nI 0) dX12_brings_40 rfl rfl ?_
  refine K_iadd (q := 42) dX12_brings_41 rfl ?_
  refine K_iald (q := 43) dX12_brings_42 rfl (fun v4 => ?_)
  refine K_imul (q := 44) dX12_brings_43 rfl ?_
  refine K_aload_n (q := 45) 0 dX12_brings_44 rfl rfl rfl ?_
  refine K_getR (q := 48) (ci := 7) (a2 := 201) 0 dX12_brings_45 fRX12_9 rfl rfl (by decide) rfl rfl ?_
  refine K_iload_n (q := 49) 1 dX12_brings_48 rfl rfl rfl ?_
  refine K_iconst (q := 50) (v := nI 1) dX12_brings_49 rfl rfl ?_
  refine K_iadd (q := 51) dX12_brings_50 rfl ?_
  refine K_iald (q := 52) dX12_brings_51 rfl (fun v5 => ?_)
  refine K_iadd (q := 53) dX12_brings_52 rfl ?_
  refine K_imul (q := 54) dX12_brings_53 rfl ?_
  refine K_iadd (q := 55) dX12_brings_54 rfl ?_
  refine K_istore (q := 57) (ll' := [(5, .inl ((nI 6814) + ((nI 3) * (((nI 7) * v4) + v5)))), (0, .inr (17, 0, 200)), (1, .inl (l1)), (2, .inl (l2)), (3, .inl (l3)), (4, .inl (l4))]) dX12_brings_55 (by decide) rfl rfl ?_
  refine K_aload_n (q := 58) 1 dX12_brings_57 rfl rfl rfl ?_
  refine K_getR (q := 61) (ci := 7) (a2 := 201) 0 dX12_brings_58 fRX12_9 rfl rfl (by decide) rfl rfl ?_
  refine K_iload (q := 63) 0 dX12_brings_61 rfl rfl ?_
  refine K_iconst (q := 64) (v := nI 1) dX12_brings_63 rfl rfl ?_
  refine K_iadd (q := 65) dX12_brings_64 rfl ?_
  refine K_dup2 (q := 66) dX12_brings_65 rfl ?_
  refine K_iald (q := 67) dX12_brings_66 rfl (fun v6 => ?_)
  refine K_iload_n (q := 68) 3 dX12_brings_67 rfl rfl rfl ?_
  refine K_iadd (q := 69) dX12_brings_68 rfl ?_
  refine K_iast (q := 70) dX12_brings_69 rfl (fun M7 => ?_)
  refine K_aload_n (q := 71) 1 dX12_brings_70 rfl rfl rfl ?_
  refine K_getR (q := 74) (ci := 7) (a2 := 201) 0 dX12_brings_71 fRX12_9 rfl rfl (by decide) rfl rfl ?_
  refine K_iload (q := 76) 0 dX12_brings_74 rfl rfl ?_
  refine K_iconst (q := 77) (v := nI 2) dX12_brings_76 rfl rfl ?_
  refine K_iadd (q := 78) dX12_brings_77 rfl ?_
  refine K_dup2 (q := 79) dX12_brings_78 rfl ?_
  refine K_iald (q := 80) dX12_brings_79 rfl (fun v8 => ?_)
  refine K_iload (q := 82) 5 dX12_brings_80 rfl rfl ?_
  refine K_iconst (q := 83) (v := -1) dX12_brings_82 rfl rfl ?_
  refine K_icmp_ne (q := 86) (tgt := 90) dX12_brings_83 rfl ?_ rfl ?_
  · refine K_iconst (q := 91) (v := nI 1) dX12_brings_90 rfl rfl ?_
    exact J_sub [] (tX12_brings_91  (((nI 6814) + ((nI 3) * (((nI 7) * v4) + v5))) + (nI 2)) v8 (nI 1) M7) rfl
  · refine K_iconst (q := 87) (v := nI 0) dX12_brings_86 rfl rfl ?_
    refine J_goto (tgt := 91) dX12_brings_87 rfl ?_
    exact J_sub [] (tX12_brings_91  (((nI 6814) + ((nI 3) * (((nI 7) * v4) + v5))) + (nI 2)) v8 (nI 0) M7) rfl
theorem dX12_gives_0 : decode cX12_gives 0 = .ok (.iload_n 1, 1) := by decide +kernel
theorem dX12_gives_1 : decode cX12_gives 1 = .ok (.iload_n 3, 1) := by decide +kernel
theorem dX12_gives_2 : decode cX12_gives 2 = .ok (.invokestatic 61, 3) := by decide +kernel
theorem dX12_gives_5 : decode cX12_gives 5 = .ok (.istore 7, 2) := by decide +kernel
theorem dX12_gives_7 : decode cX12_gives 7 = .ok (.aload_n 0, 1) := by decide +kernel
theorem dX12_gives_8 : decode cX12_gives 8 = .ok (.aload_n 0, 1) := by decide +kernel
theorem dX12_gives_9 : decode cX12_gives 9 = .ok (.iload_n 1, 1) := by decide +kernel
theorem dX12_gives_10 : decode cX12_gives 10 = .ok (.iload_n 2, 1) := by decide +kernel
theorem dX12_gives_11 : decode cX12_gives 11 = .ok (.iconst 3, 1) := by decide +kernel
theorem dX12_gives_12 : decode cX12_gives 12 = .ok (.iload_n 3, 1) := by decide +kernel
theorem dX12_gives_13 : decode cX12_gives 13 = .ok (.invokevirtual 86, 3) := by decide +kernel
theorem dX12_gives_16 : decode cX12_gives 16 = .ok (.iload 4, 2) := by decide +kernel
theorem dX12_gives_18 : decode cX12_gives 18 = .ok (.iload 5, 2) := by decide +kernel
theorem dX12_gives_20 : decode cX12_gives 20 = .ok (.ifCond .eq 7, 3) := by decide +kernel
theorem dX12_gives_23 : decode cX12_gives 23 = .ok (.iconst 1, 1) := by decide +kernel
theorem dX12_gives_24 : decode cX12_gives 24 = .ok (.goto 4, 3) := by decide +kernel
theorem dX12_gives_27 : decode cX12_gives 27 = .ok (.iconst 0, 1) := by decide +kernel
theorem dX12_gives_28 : decode cX12_gives 28 = .ok (.iload 6, 2) := by decide +kernel
theorem dX12_gives_30 : decode cX12_gives 30 = .ok (.ifCond .eq 17, 3) := by decide +kernel
theorem dX12_gives_33 : decode cX12_gives 33 = .ok (.aload_n 0, 1) := by decide +kernel
theorem dX12_gives_34 : decode cX12_gives 34 = .ok (.getfield 9, 3) := by decide +kernel
theorem dX12_gives_37 : decode cX12_gives 37 = .ok (.sipush 182, 3) := by decide +kernel
theorem dX12_gives_40 : decode cX12_gives 40 = .ok (.iload 7, 2) := by decide +kernel
theorem dX12_gives_42 : decode cX12_gives 42 = .ok (.iadd, 1) := by decide +kernel
theorem dX12_gives_43 : decode cX12_gives 43 = .ok (.iaload, 1) := by decide +kernel
theorem dX12_gives_44 : decode cX12_gives 44 = .ok (.goto 4, 3) := by decide +kernel
theorem dX12_gives_47 : decode cX12_gives 47 = .ok (.iconst (-1), 1) := by decide +kernel
theorem dX12_gives_48 : decode cX12_gives 48 = .ok (.invokevirtual 104, 3) := by decide +kernel
theorem dX12_gives_51 : decode cX12_gives 51 = .ok (.aload_n 0, 1) := by decide +kernel
theorem dX12_gives_52 : decode cX12_gives 52 = .ok (.getfield 9, 3) := by decide +kernel
theorem dX12_gives_55 : decode cX12_gives 55 = .ok (.bipush 14, 2) := by decide +kernel
theorem dX12_gives_57 : decode cX12_gives 57 = .ok (.iload 7, 2) := by decide +kernel
theorem dX12_gives_59 : decode cX12_gives 59 = .ok (.iadd, 1) := by decide +kernel
theorem dX12_gives_60 : decode cX12_gives 60 = .ok (.dup2, 1) := by decide +kernel
theorem dX12_gives_61 : decode cX12_gives 61 = .ok (.iaload, 1) := by decide +kernel
theorem dX12_gives_62 : decode cX12_gives 62 = .ok (.iload 4, 2) := by decide +kernel
theorem dX12_gives_64 : decode cX12_gives 64 = .ok (.isub, 1) := by decide +kernel
theorem dX12_gives_65 : decode cX12_gives 65 = .ok (.iastore, 1) := by decide +kernel
theorem dX12_gives_66 : decode cX12_gives 66 = .ok (.iload 5, 2) := by decide +kernel
theorem dX12_gives_68 : decode cX12_gives 68 = .ok (.ifCond .eq 14, 3) := by decide +kernel
theorem dX12_gives_71 : decode cX12_gives 71 = .ok (.aload_n 0, 1) := by decide +kernel
theorem dX12_gives_72 : decode cX12_gives 72 = .ok (.getfield 9, 3) := by decide +kernel
theorem dX12_gives_75 : decode cX12_gives 75 = .ok (.bipush 70, 2) := by decide +kernel
theorem dX12_gives_77 : decode cX12_gives 77 = .ok (.iload 7, 2) := by decide +kernel
theorem dX12_gives_79 : decode cX12_gives 79 = .ok (.iadd, 1) := by decide +kernel
theorem dX12_gives_80 : decode cX12_gives 80 = .ok (.iconst 0, 1) := by decide +kernel
theorem dX12_gives_81 : decode cX12_gives 81 = .ok (.iastore, 1) := by decide +kernel
theorem dX12_gives_82 : decode cX12_gives 82 = .ok (.aload_n 0, 1) := by decide +kernel
theorem dX12_gives_83 : decode cX12_gives 83 = .ok (.getfield 9, 3) := by decide +kernel
theorem dX12_gives_86 : decode cX12_gives 86 = .ok (.bipush 14, 2) := by decide +kernel
theorem dX12_gives_88 : decode cX12_gives 88 = .ok (.iload 7, 2) := by decide +kernel
theorem dX12_gives_90 : decode cX12_gives 90 = .ok (.iadd, 1) := by decide +kernel
theorem dX12_gives_91 : decode cX12_gives 91 = .ok (.iaload, 1) := by decide +kernel
theorem dX12_gives_92 : decode cX12_gives 92 = .ok (.ifCond .le 4, 3) := by decide +kernel
theorem dX12_gives_95 : decode cX12_gives 95 = .ok (.return_, 1) := by decide +kernel
theorem dX12_gives_96 : decode cX12_gives 96 = .ok (.aload_n 0, 1) := by decide +kernel
theorem dX12_gives_97 : decode cX12_gives 97 = .ok (.getfield 9, 3) := by decide +kernel
theorem dX12_gives_100 : decode cX12_gives 100 = .ok (.bipush 126, 2) := by decide +kernel
theorem dX12_gives_102 : decode cX12_gives 102 = .ok (.iload 7, 2) := by decide +kernel
theorem dX12_gives_104 : decode cX12_gives 104 = .ok (.iadd, 1) := by decide +kernel
theorem dX12_gives_105 : decode cX12_gives 105 = .ok (.iconst 0, 1) := by decide +kernel
theorem dX12_gives_106 : decode cX12_gives 106 = .ok (.iastore, 1) := by decide +kernel
theorem dX12_gives_107 : decode cX12_gives 107 = .ok (.aload_n 0, 1) := by decide +kernel
theorem dX12_gives_108 : decode cX12_gives 108 = .ok (.getfield 9, 3) := by decide +kernel
theorem dX12_gives_111 : decode cX12_gives 111 = .ok (.sipush 182, 3) := by decide +kernel
theorem dX12_gives_114 : decode cX12_gives 114 = .ok (.iload 7, 2) := by decide +kernel
theorem dX12_gives_116 : decode cX12_gives 116 = .ok (.iadd, 1) := by decide +kernel
theorem dX12_gives_117 : decode cX12_gives 117 = .ok (.iconst 0, 1) := by decide +kernel
theorem dX12_gives_118 : decode cX12_gives 118 = .ok (.iastore, 1) := by decide +kernel
theorem dX12_gives_119 : decode cX12_gives 119 = .ok (.iload_n 1, 1) := by decide +kernel
theorem dX12_gives_120 : decode cX12_gives 120 = .ok (.bipush 6, 2) := by decide +kernel
theorem dX12_gives_122 : decode cX12_gives 122 = .ok (.if_icmp .eq 9, 3) := by decide +kernel
theorem dX12_gives_125 : decode cX12_gives 125 = .ok (.aload_n 0, 1) := by decide +kernel
theorem dX12_gives_126 : decode cX12_gives 126 = .ok (.iload_n 1, 1) := by decide +kernel
theorem dX12_gives_127 : decode cX12_gives 127 = .ok (.iload_n 3, 1) := by decide +kernel
theorem dX12_gives_128 : decode cX12_gives 128 = .ok (.invokevirtual 101, 3) := by decide +kernel
theorem dX12_gives_131 : decode cX12_gives 131 = .ok (.return_, 1) := by decide +kernel
def xX12_gives_82   (l1 : Int32) (l3 : Int32) (l7 : Int32) (M : j_M) : Option (j_M) := gd ((nI 14) + l7) 7460 (oli (M 201 (ix ((nI 14) + l7))) fun v1 => (if v1 ≤ (0 : Int32) then gd ((nI 126) + l7) 7460 (oml (mw M 201 (ix ((nI 126) + l7)) (nI 0)) fun M2 => gd ((nI 182) + l7) 7460 (oml (mw M2 201 (ix ((nI 182) + l7)) (nI 0)) fun M3 => (if l1 = (nI 6) then some M3 else obv (xX12_forgets l1 l3 M3) fun M4 => some M4))) else some M))
set_option maxRecDepth 20000 in
set_option maxHeartbeats 2000000 in
theorem tX12_gives_82    (l1 : Int32) (l3 : Int32) (l7 : Int32) (M : j_M) : J (ρ := j_M) yX12_gives cX12_gives 8 none 3 68 j_ev 82 [(0, .inr (17, 0, 200)), (1, .inl (l1)), (3, .inl (l3)), (7, .inl (l7))] [] M (xX12_gives_82  l1 l3 l7 M) := by
  unfold xX12_gives_82
  refine K_aload_n (q := 83) 0 dX12_gives_82 rfl rfl rfl ?_
  refine K_getR (q := 86) (ci := 7) (a2 := 201) 0 dX12_gives_83 fRX12_9 rfl rfl (by decide) rfl rfl ?_
  refine K_bipush (q := 88) (v := nI 14) dX12_gives_86 rfl rfl ?_
  refine K_iload (q := 90) 3 dX12_gives_88 rfl rfl ?_
  refine K_iadd (q := 91) dX12_gives_90 rfl ?_
  refine K_iald (q := 92) dX12_gives_91 rfl (fun v1 => ?_)
  refine K_if_le (q := 95) (tgt := 96) dX12_gives_92 rfl ?_ rfl ?_
  · refine K_aload_n (q := 97) 0 dX12_gives_96 rfl rfl rfl ?_
    refine K_getR (q := 100) (ci := 7) (a2 := 201) 0 dX12_gives_97 fRX12_9 rfl rfl (by decide) rfl rfl ?_
    refine K_bipush (q := 102) (v := nI 126) dX12_gives_100 rfl rfl ?_
    refine K_iload (q := 104) 3 dX12_gives_102 rfl rfl ?_
    refine K_iadd (q := 105) dX12_gives_104 rfl ?_
    refine K_iconst (q := 106) (v := nI 0) dX12_gives_105 rfl rfl ?_
    refine K_iast (q := 107) dX12_gives_106 rfl (fun M2 => ?_)
    refine K_aload_n (q := 108) 0 dX12_gives_107 rfl rfl rfl ?_
    refine K_getR (q := 111) (ci := 7) (a2 := 201) 0 dX12_gives_108 fRX12_9 rfl rfl (by decide) rfl rfl ?_
    refine K_sipush (q := 114) (v := nI 182) dX12_gives_111 rfl rfl ?_
    refine K_iload (q := 116) 3 dX12_gives_114 rfl rfl ?_
    refine K_iadd (q := 117) dX12_gives_116 rfl ?_
    refine K_iconst (q := 118) (v := nI 0) dX12_gives_117 rfl rfl ?_
    refine K_iast (q := 119) dX12_gives_118 rfl (fun M3 => ?_)
    refine K_iload_n (q := 120) 1 dX12_gives_119 rfl rfl rfl ?_
    refine K_bipush (q := 122) (v := nI 6) dX12_gives_120 rfl rfl ?_
    refine K_icmp_eq (q := 125) (tgt := 131) dX12_gives_122 rfl ?_ rfl ?_
    · exact J_vret dX12_gives_131
    · refine K_aload_n (q := 126) 0 dX12_gives_125 rfl rfl rfl ?_
      refine K_iload_n (q := 127) 1 dX12_gives_126 rfl rfl rfl ?_
      refine K_iload_n (q := 128) 2 dX12_gives_127 rfl rfl rfl ?_
      refine K_cvv (q := 131) [.inl (l1), .inl (l3)] dX12_gives_128 cb_X12_forgets cvRX12_101 rc_7 (show (17 : Nat) ≠ 0 by decide) rfl (Nat.le_of_ble_eq_true rfl) ⟨by decide, by decide⟩ (Nat.le_of_ble_eq_true rfl) rfl (tX12_forgets l1 l3 M3) rfl (fun M4 => ?_)
      exact J_vret dX12_gives_131
  · exact J_vret dX12_gives_95
def xX12_gives_48   (l1 : Int32) (l3 : Int32) (l4 : Int32) (l5 : Int32) (l7 : Int32) (s3 : Int32) (s2 : Int32) (s1 : Int32) (s0 : Int32) (M : j_M) : Option (j_M) := obv (xX12_brings s3 s2 s1 s0 M) fun M1 => gd ((nI 14) + l7) 7460 (oli (M1 201 (ix ((nI 14) + l7))) fun v2 => gd ((nI 14) + l7) 7460 (oml (mw M1 201 (ix ((nI 14) + l7)) (v2 - l4)) fun M3 => (if l5 = (0 : Int32) then xX12_gives_82  l1 l3 l7 M3 else gd ((nI 70) + l7) 7460 (oml (mw M3 201 (ix ((nI 70) + l7)) (nI 0)) fun M4 => xX12_gives_82  l1 l3 l7 M4))))
set_option maxRecDepth 20000 in
set_option maxHeartbeats 2000000 in
theorem tX12_gives_48    (l1 : Int32) (l3 : Int32) (l4 : Int32) (l5 : Int32) (l7 : Int32) (s3 : Int32) (s2 : Int32) (s1 : Int32) (s0 : Int32) (M : j_M) : J (ρ := j_M) yX12_gives cX12_gives 8 none 3 68 j_ev 48 [(0, .inr (17, 0, 200)), (1, .inl (l1)), (3, .inl (l3)), (4, .inl (l4)), (5, .inl (l5)), (7, .inl (l7))] [.inl (s0), .inl (s1), .inl (s2), .inl (s3), .inr (17, 0, 200)] M (xX12_gives_48  l1 l3 l4 l5 l7 s3 s2 s1 s0 M) := by
  unfold xX12_gives_48
  refine K_cvv (q := 51) [.inl (s3), .inl (s2), .inl (s1), .inl (s0)] dX12_gives_48 cb_X12_brings cvRX12_104 rc_7 (show (17 : Nat) ≠ 0 by decide) rfl (Nat.le_of_ble_eq_true rfl) ⟨by decide, by decide⟩ (Nat.le_of_ble_eq_true rfl) rfl (tX12_brings s3 s2 s1 s0 M) rfl (fun M1 => ?_)
  refine K_aload_n (q := 52) 0 dX12_gives_51 rfl rfl rfl ?_
  refine K_getR (q := 55) (ci := 7) (a2 := 201) 0 dX12_gives_52 fRX12_9 rfl rfl (by decide) rfl rfl ?_
  refine K_bipush (q := 57) (v := nI 14) dX12_gives_55 rfl rfl ?_
  refine K_iload (q := 59) 5 dX12_gives_57 rfl rfl ?_
  refine K_iadd (q := 60) dX12_gives_59 rfl ?_
  refine K_dup2 (q := 61) dX12_gives_60 rfl ?_
  refine K_iald (q := 62) dX12_gives_61 rfl (fun v2 => ?_)
  refine K_iload (q := 64) 3 dX12_gives_62 rfl rfl ?_
  refine K_isub (q := 65) dX12_gives_64 rfl ?_
  refine K_iast (q := 66) dX12_gives_65 rfl (fun M3 => ?_)
  refine K_iload (q := 68) 4 dX12_gives_66 rfl rfl ?_
  refine K_if_eq (q := 71) (tgt := 82) dX12_gives_68 rfl ?_ rfl ?_
  · exact J_sub [0, 1, 2, 5] (tX12_gives_82  l1 l3 l7 M3) rfl
  · refine K_aload_n (q := 72) 0 dX12_gives_71 rfl rfl rfl ?_
    refine K_getR (q := 75) (ci := 7) (a2 := 201) 0 dX12_gives_72 fRX12_9 rfl rfl (by decide) rfl rfl ?_
    refine K_bipush (q := 77) (v := nI 70) dX12_gives_75 rfl rfl ?_
    refine K_iload (q := 79) 5 dX12_gives_77 rfl rfl ?_
    refine K_iadd (q := 80) dX12_gives_79 rfl ?_
    refine K_iconst (q := 81) (v := nI 0) dX12_gives_80 rfl rfl ?_
    refine K_iast (q := 82) dX12_gives_81 rfl (fun M4 => ?_)
    exact J_sub [0, 1, 2, 5] (tX12_gives_82  l1 l3 l7 M4) rfl
def xX12_gives_28   (l1 : Int32) (l3 : Int32) (l4 : Int32) (l5 : Int32) (l6 : Int32) (l7 : Int32) (s2 : Int32) (s1 : Int32) (s0 : Int32) (M : j_M) : Option (j_M) := (if l6 = (0 : Int32) then xX12_gives_48  l1 l3 l4 l5 l7 s2 s1 s0 (-1 : Int32) M else gd ((nI 182) + l7) 7460 (oli (M 201 (ix ((nI 182) + l7))) fun v1 => xX12_gives_48  l1 l3 l4 l5 l7 s2 s1 s0 v1 M))
set_option maxRecDepth 20000 in
set_option maxHeartbeats 2000000 in
theorem tX12_gives_28    (l1 : Int32) (l3 : Int32) (l4 : Int32) (l5 : Int32) (l6 : Int32) (l7 : Int32) (s2 : Int32) (s1 : Int32) (s0 : Int32) (M : j_M) : J (ρ := j_M) yX12_gives cX12_gives 8 none 3 68 j_ev 28 [(0, .inr (17, 0, 200)), (1, .inl (l1)), (3, .inl (l3)), (4, .inl (l4)), (5, .inl (l5)), (6, .inl (l6)), (7, .inl (l7))] [.inl (s0), .inl (s1), .inl (s2), .inr (17, 0, 200)] M (xX12_gives_28  l1 l3 l4 l5 l6 l7 s2 s1 s0 M) := by
  unfold xX12_gives_28
  refine K_iload (q := 30) 5 dX12_gives_28 rfl rfl ?_
  refine K_if_eq (q := 33) (tgt := 47) dX12_gives_30 rfl ?_ rfl ?_
  · refine K_iconst (q := 48) (v := -1) dX12_gives_47 rfl rfl ?_
    exact J_sub [0, 1, 2, 3, 4, 6] (tX12_gives_48  l1 l3 l4 l5 l7 s2 s1 s0 (-1 : Int32) M) rfl
  · refine K_aload_n (q := 34) 0 dX12_gives_33 rfl rfl rfl ?_
    refine K_getR (q := 37) (ci := 7) (a2 := 201) 0 dX12_gives_34 fRX12_9 rfl rfl (by decide) rfl rfl ?_
    refine K_sipush (q := 40) (v := nI 182) dX12_gives_37 rfl rfl ?_
    refine K_iload (q := 42) 6 dX12_gives_40 rfl rfl ?_
    refine K_iadd (q := 43) dX12_gives_42 rfl ?_
    refine K_iald (q := 44) dX12_gives_43 rfl (fun v1 => ?_)
    refine J_goto (tgt := 48) dX12_gives_44 rfl ?_
    exact J_sub [0, 1, 2, 3, 4, 6] (tX12_gives_48  l1 l3 l4 l5 l7 s2 s1 s0 v1 M) rfl
def xX12_gives  (l1 : Int32) (l2 : Int32) (l3 : Int32) (l4 : Int32) (l5 : Int32) (l6 : Int32) (M : j_M) : Option (j_M) := obi (xX12_place l1 l3 M) fun v2 M1 => obi (xX12_sends l1 l2 (nI 3) l3 M1) fun v4 M3 => (if l5 = (0 : Int32) then xX12_gives_28  l1 l3 l4 l5 l6 v2 v4 l4 (nI 0) M3 else xX12_gives_28  l1 l3 l4 l5 l6 v2 v4 l4 (nI 1) M3)
set_option maxRecDepth 20000 in
set_option maxHeartbeats 2000000 in
theorem tX12_gives  (l1 : Int32) (l2 : Int32) (l3 : Int32) (l4 : Int32) (l5 : Int32) (l6 : Int32) (M : j_M) : J (ρ := j_M) yX12_gives cX12_gives 8 none 3 68 j_ev 0 [(0, .inr (17, 0, 200)), (1, .inl (l1)), (2, .inl (l2)), (3, .inl (l3)), (4, .inl (l4)), (5, .inl (l5)), (6, .inl (l6))] [] M (xX12_gives  l1 l2 l3 l4 l5 l6 M) := by
  unfold xX12_gives
  refine K_iload_n (q := 1) 1 dX12_gives_0 rfl rfl rfl ?_
  refine K_iload_n (q := 2) 3 dX12_gives_1 rfl rfl rfl ?_
  refine K_csi (q := 5) [.inl (l1), .inl (l3)] dX12_gives_2 cb_X12_place cvRX12_61 rfl (Nat.le_of_ble_eq_true rfl) ⟨by decide, by decide⟩ (Nat.le_of_ble_eq_true rfl) rfl (tX12_place l1 l3 M) rfl (fun v2 M1 => ?_)
  refine K_istore (q := 7) (ll' := [(7, .inl (v2)), (0, .inr (17, 0, 200)), (1, .inl (l1)), (2, .inl (l2)), (3, .inl (l3)), (4, .inl (l4)), (5, .inl (l5)), (6, .inl (l6))]) dX12_gives_5 (by decide) rfl rfl ?_
  refine K_aload_n (q := 8) 1 dX12_gives_7 rfl rfl rfl ?_
  refine K_aload_n (q := 9) 1 dX12_gives_8 rfl rfl rfl ?_
  refine K_iload_n (q := 10) 2 dX12_gives_9 rfl rfl rfl ?_
  refine K_iload_n (q := 11) 3 dX12_gives_10 rfl rfl rfl ?_
  refine K_iconst (q := 12) (v := nI 3) dX12_gives_11 rfl rfl ?_
  refine K_iload_n (q := 13) 4 dX12_gives_12 rfl rfl rfl ?_
  refine K_cvi (q := 16) [.inl (l1), .inl (l2), .inl ((nI 3)), .inl (l3)] dX12_gives_13 cb_X12_sends cvRX12_86 rc_7 (show (17 : Nat) ≠ 0 by decide) rfl (Nat.le_of_ble_eq_true rfl) ⟨by decide, by decide⟩ (Nat.le_of_ble_eq_true rfl) rfl (tX12_sends l1 l2 (nI 3) l3 M1) rfl (fun v4 M3 => ?_)
  refine K_iload (q := 18) 5 dX12_gives_16 rfl rfl ?_
  refine K_iload (q := 20) 6 dX12_gives_18 rfl rfl ?_
  refine K_if_eq (q := 23) (tgt := 27) dX12_gives_20 rfl ?_ rfl ?_
  · refine K_iconst (q := 28) (v := nI 0) dX12_gives_27 rfl rfl ?_
    exact J_sub [1, 2, 4, 5, 6, 7, 0] (tX12_gives_28  l1 l3 l4 l5 l6 v2 v4 l4 (nI 0) M3) rfl
  · refine K_iconst (q := 24) (v := nI 1) dX12_gives_23 rfl rfl ?_
    refine J_goto (tgt := 28) dX12_gives_24 rfl ?_
    exact J_sub [1, 2, 4, 5, 6, 7, 0] (tX12_gives_28  l1 l3 l4 l5 l6 v2 v4 l4 (nI 1) M3) rfl
theorem dX12_givesAll_0 : decode cX12_givesAll 0 = .ok (.aload_n 0, 1) := by decide +kernel
theorem dX12_givesAll_1 : decode cX12_givesAll 1 = .ok (.getfield 9, 3) := by decide +kernel
theorem dX12_givesAll_4 : decode cX12_givesAll 4 = .ok (.bipush 70, 2) := by decide +kernel
theorem dX12_givesAll_6 : decode cX12_givesAll 6 = .ok (.iload_n 1, 1) := by decide +kernel
theorem dX12_givesAll_7 : decode cX12_givesAll 7 = .ok (.iload_n 3, 1) := by decide +kernel
theorem dX12_givesAll_8 : decode cX12_givesAll 8 = .ok (.invokestatic 61, 3) := by decide +kernel
theorem dX12_givesAll_11 : decode cX12_givesAll 11 = .ok (.iadd, 1) := by decide +kernel
theorem dX12_givesAll_12 : decode cX12_givesAll 12 = .ok (.iaload, 1) := by decide +kernel
theorem dX12_givesAll_13 : decode cX12_givesAll 13 = .ok (.iconst 1, 1) := by decide +kernel
theorem dX12_givesAll_14 : decode cX12_givesAll 14 = .ok (.if_icmp .ne 7, 3) := by decide +kernel
theorem dX12_givesAll_17 : decode cX12_givesAll 17 = .ok (.iconst 1, 1) := by decide +kernel
theorem dX12_givesAll_18 : decode cX12_givesAll 18 = .ok (.goto 4, 3) := by decide +kernel
theorem dX12_givesAll_21 : decode cX12_givesAll 21 = .ok (.iconst 0, 1) := by decide +kernel
theorem dX12_givesAll_22 : decode cX12_givesAll 22 = .ok (.istore 4, 2) := by decide +kernel
theorem dX12_givesAll_24 : decode cX12_givesAll 24 = .ok (.aload_n 0, 1) := by decide +kernel
theorem dX12_givesAll_25 : decode cX12_givesAll 25 = .ok (.iload_n 1, 1) := by decide +kernel
theorem dX12_givesAll_26 : decode cX12_givesAll 26 = .ok (.iload_n 2, 1) := by decide +kernel
theorem dX12_givesAll_27 : decode cX12_givesAll 27 = .ok (.iload_n 3, 1) := by decide +kernel
theorem dX12_givesAll_28 : decode cX12_givesAll 28 = .ok (.aload_n 0, 1) := by decide +kernel
theorem dX12_givesAll_29 : decode cX12_givesAll 29 = .ok (.getfield 9, 3) := by decide +kernel
theorem dX12_givesAll_32 : decode cX12_givesAll 32 = .ok (.bipush 14, 2) := by decide +kernel
theorem dX12_givesAll_34 : decode cX12_givesAll 34 = .ok (.iload_n 1, 1) := by decide +kernel
theorem dX12_givesAll_35 : decode cX12_givesAll 35 = .ok (.iload_n 3, 1) := by decide +kernel
theorem dX12_givesAll_36 : decode cX12_givesAll 36 = .ok (.invokestatic 61, 3) := by decide +kernel
theorem dX12_givesAll_39 : decode cX12_givesAll 39 = .ok (.iadd, 1) := by decide +kernel
theorem dX12_givesAll_40 : decode cX12_givesAll 40 = .ok (.iaload, 1) := by decide +kernel
theorem dX12_givesAll_41 : decode cX12_givesAll 41 = .ok (.iload 4, 2) := by decide +kernel
theorem dX12_givesAll_43 : decode cX12_givesAll 43 = .ok (.iload 4, 2) := by decide +kernel
theorem dX12_givesAll_45 : decode cX12_givesAll 45 = .ok (.invokevirtual 108, 3) := by decide +kernel
theorem dX12_givesAll_48 : decode cX12_givesAll 48 = .ok (.return_, 1) := by decide +kernel
def xX12_givesAll_22   (l1 : Int32) (l2 : Int32) (l3 : Int32) (s0 : Int32) (M : j_M) : Option (j_M) := obi (xX12_place l1 l3 M) fun v2 M1 => gd ((nI 14) + v2) 7460 (oli (M1 201 (ix ((nI 14) + v2))) fun v3 => obv (xX12_gives l1 l2 l3 v3 s0 s0 M1) fun M4 => some M4)
set_option maxRecDepth 20000 in
set_option maxHeartbeats 2000000 in
theorem tX12_givesAll_22    (l1 : Int32) (l2 : Int32) (l3 : Int32) (s0 : Int32) (M : j_M) : J (ρ := j_M) yX12_givesAll cX12_givesAll 5 none 4 95 j_ev 22 [(0, .inr (17, 0, 200)), (1, .inl (l1)), (2, .inl (l2)), (3, .inl (l3))] [.inl (s0)] M (xX12_givesAll_22  l1 l2 l3 s0 M) := by
  unfold xX12_givesAll_22
  refine K_istore (q := 24) (ll' := [(4, .inl (s0)), (0, .inr (17, 0, 200)), (1, .inl (l1)), (2, .inl (l2)), (3, .inl (l3))]) dX12_givesAll_22 (by decide) rfl rfl ?_
  refine K_aload_n (q := 25) 1 dX12_givesAll_24 rfl rfl rfl ?_
  refine K_iload_n (q := 26) 2 dX12_givesAll_25 rfl rfl rfl ?_
  refine K_iload_n (q := 27) 3 dX12_givesAll_26 rfl rfl rfl ?_
  refine K_iload_n (q := 28) 4 dX12_givesAll_27 rfl rfl rfl ?_
  refine K_aload_n (q := 29) 1 dX12_givesAll_28 rfl rfl rfl ?_
  refine K_getR (q := 32) (ci := 7) (a2 := 201) 0 dX12_givesAll_29 fRX12_9 rfl rfl (by decide) rfl rfl ?_
  refine K_bipush (q := 34) (v := nI 14) dX12_givesAll_32 rfl rfl ?_
  refine K_iload_n (q := 35) 2 dX12_givesAll_34 rfl rfl rfl ?_
  refine K_iload_n (q := 36) 4 dX12_givesAll_35 rfl rfl rfl ?_
  refine K_csi (q := 39) [.inl (l1), .inl (l3)] dX12_givesAll_36 cb_X12_place cvRX12_61 rfl (Nat.le_of_ble_eq_true rfl) ⟨by decide, by decide⟩ (Nat.le_of_ble_eq_true rfl) rfl (tX12_place l1 l3 M) rfl (fun v2 M1 => ?_)
  refine K_iadd (q := 40) dX12_givesAll_39 rfl ?_
  refine K_iald (q := 41) dX12_givesAll_40 rfl (fun v3 => ?_)
  refine K_iload (q := 43) 0 dX12_givesAll_41 rfl rfl ?_
  refine K_iload (q := 45) 0 dX12_givesAll_43 rfl rfl ?_
  refine K_cvv (q := 48) [.inl (l1), .inl (l2), .inl (l3), .inl (v3), .inl (s0), .inl (s0)] dX12_givesAll_45 cb_X12_gives cvRX12_108 rc_7 (show (17 : Nat) ≠ 0 by decide) rfl (Nat.le_of_ble_eq_true rfl) ⟨by decide, by decide⟩ (Nat.le_of_ble_eq_true rfl) rfl (tX12_gives l1 l2 l3 v3 s0 s0 M1) rfl (fun M4 => ?_)
  exact J_vret dX12_givesAll_48
def xX12_givesAll  (l1 : Int32) (l2 : Int32) (l3 : Int32) (M : j_M) : Option (j_M) := obi (xX12_place l1 l3 M) fun v2 M1 => gd ((nI 70) + v2) 7460 (oli (M1 201 (ix ((nI 70) + v2))) fun v3 => (if v3 = (nI 1) then xX12_givesAll_22  l1 l2 l3 (nI 1) M1 else xX12_givesAll_22  l1 l2 l3 (nI 0) M1))
set_option maxRecDepth 20000 in
set_option maxHeartbeats 2000000 in
theorem tX12_givesAll  (l1 : Int32) (l2 : Int32) (l3 : Int32) (M : j_M) : J (ρ := j_M) yX12_givesAll cX12_givesAll 5 none 4 95 j_ev 0 [(0, .inr (17, 0, 200)), (1, .inl (l1)), (2, .inl (l2)), (3, .inl (l3))] [] M (xX12_givesAll  l1 l2 l3 M) := by
  unfold xX12_givesAll
  refine K_aload_n (q := 1) 0 dX12_givesAll_0 rfl rfl rfl ?_
  refine K_getR (q := 4) (ci := 7) (a2 := 201) 0 dX12_givesAll_1 fRX12_9 rfl rfl (by decide) rfl rfl ?_
  refine K_bipush (q := 6) (v := nI 70) dX12_givesAll_4 rfl rfl ?_
  refine K_iload_n (q := 7) 1 dX12_givesAll_6 rfl rfl rfl ?_
  refine K_iload_n (q := 8) 3 dX12_givesAll_7 rfl rfl rfl ?_
  refine K_csi (q := 11) [.inl (l1), .inl (l3)] dX12_givesAll_8 cb_X12_place cvRX12_61 rfl (Nat.le_of_ble_eq_true rfl) ⟨by decide, by decide⟩ (Nat.le_of_ble_eq_true rfl) rfl (tX12_place l1 l3 M) rfl (fun v2 M1 => ?_)
  refine K_iadd (q := 12) dX12_givesAll_11 rfl ?_
  refine K_iald (q := 13) dX12_givesAll_12 rfl (fun v3 => ?_)
  refine K_iconst (q := 14) (v := nI 1) dX12_givesAll_13 rfl rfl ?_
  refine K_icmp_ne (q := 17) (tgt := 21) dX12_givesAll_14 rfl ?_ rfl ?_
  · refine K_iconst (q := 22) (v := nI 0) dX12_givesAll_21 rfl rfl ?_
    exact J_sub [0, 1, 2, 3] (tX12_givesAll_22  l1 l2 l3 (nI 0) M1) rfl
  · refine K_iconst (q := 18) (v := nI 1) dX12_givesAll_17 rfl rfl ?_
    refine J_goto (tgt := 22) dX12_givesAll_18 rfl ?_
    exact J_sub [0, 1, 2, 3] (tX12_givesAll_22  l1 l2 l3 (nI 1) M1) rfl
theorem dX12_turn_0 : decode cX12_turn 0 = .ok (.iconst 0, 1) := by decide +kernel
theorem dX12_turn_1 : decode cX12_turn 1 = .ok (.istore_n 3, 1) := by decide +kernel
theorem dX12_turn_2 : decode cX12_turn 2 = .ok (.iload_n 3, 1) := by decide +kernel
theorem dX12_turn_3 : decode cX12_turn 3 = .ok (.aload_n 0, 1) := by decide +kernel
theorem dX12_turn_4 : decode cX12_turn 4 = .ok (.getfield 9, 3) := by decide +kernel
theorem dX12_turn_7 : decode cX12_turn 7 = .ok (.iconst 0, 1) := by decide +kernel
theorem dX12_turn_8 : decode cX12_turn 8 = .ok (.iaload, 1) := by decide +kernel
theorem dX12_turn_9 : decode cX12_turn 9 = .ok (.if_icmp .ge 49, 3) := by decide +kernel
theorem dX12_turn_12 : decode cX12_turn 12 = .ok (.aload_n 0, 1) := by decide +kernel
theorem dX12_turn_13 : decode cX12_turn 13 = .ok (.getfield 9, 3) := by decide +kernel
theorem dX12_turn_16 : decode cX12_turn 16 = .ok (.sipush 358, 3) := by decide +kernel
theorem dX12_turn_19 : decode cX12_turn 19 = .ok (.bipush 6, 2) := by decide +kernel
theorem dX12_turn_21 : decode cX12_turn 21 = .ok (.iload_n 1, 1) := by decide +kernel
theorem dX12_turn_22 : decode cX12_turn 22 = .ok (.imul, 1) := by decide +kernel
theorem dX12_turn_23 : decode cX12_turn 23 = .ok (.iadd, 1) := by decide +kernel
theorem dX12_turn_24 : decode cX12_turn 24 = .ok (.iload_n 3, 1) := by decide +kernel
theorem dX12_turn_25 : decode cX12_turn 25 = .ok (.iadd, 1) := by decide +kernel
theorem dX12_turn_26 : decode cX12_turn 26 = .ok (.iaload, 1) := by decide +kernel
theorem dX12_turn_27 : decode cX12_turn 27 = .ok (.iconst 1, 1) := by decide +kernel
theorem dX12_turn_28 : decode cX12_turn 28 = .ok (.if_icmp .ne 24, 3) := by decide +kernel
theorem dX12_turn_31 : decode cX12_turn 31 = .ok (.aload_n 0, 1) := by decide +kernel
theorem dX12_turn_32 : decode cX12_turn 32 = .ok (.getfield 9, 3) := by decide +kernel
theorem dX12_turn_35 : decode cX12_turn 35 = .ok (.sipush 400, 3) := by decide +kernel
theorem dX12_turn_38 : decode cX12_turn 38 = .ok (.bipush 6, 2) := by decide +kernel
theorem dX12_turn_40 : decode cX12_turn 40 = .ok (.iload_n 1, 1) := by decide +kernel
theorem dX12_turn_41 : decode cX12_turn 41 = .ok (.imul, 1) := by decide +kernel
theorem dX12_turn_42 : decode cX12_turn 42 = .ok (.iadd, 1) := by decide +kernel
theorem dX12_turn_43 : decode cX12_turn 43 = .ok (.iload_n 3, 1) := by decide +kernel
theorem dX12_turn_44 : decode cX12_turn 44 = .ok (.iadd, 1) := by decide +kernel
theorem dX12_turn_45 : decode cX12_turn 45 = .ok (.iaload, 1) := by decide +kernel
theorem dX12_turn_46 : decode cX12_turn 46 = .ok (.iload_n 2, 1) := by decide +kernel
theorem dX12_turn_47 : decode cX12_turn 47 = .ok (.if_icmp .ne 5, 3) := by decide +kernel
theorem dX12_turn_50 : decode cX12_turn 50 = .ok (.iload_n 3, 1) := by decide +kernel
theorem dX12_turn_51 : decode cX12_turn 51 = .ok (.ireturn, 1) := by decide +kernel
theorem dX12_turn_52 : decode cX12_turn 52 = .ok (.iinc 3 1, 3) := by decide +kernel
theorem dX12_turn_55 : decode cX12_turn 55 = .ok (.goto (-53), 3) := by decide +kernel
theorem dX12_turn_58 : decode cX12_turn 58 = .ok (.iconst (-1), 1) := by decide +kernel
theorem dX12_turn_59 : decode cX12_turn 59 = .ok (.ireturn, 1) := by decide +kernel
def xX12_turn_2   : Nat → Int32 → Int32 → Int32 → j_M → Option (Int32 × j_M)
  | 0, _, _, _, _ => none
  | n + 1, l1, l2, l3, M => gd (nI 0) 7460 (oli (M 201 (ix (nI 0))) fun v1 => (if v1 ≤ l3 then some ((-1 : Int32), M) else gd (((nI 358) + ((nI 6) * l1)) + l3) 7460 (oli (M 201 (ix (((nI 358) + ((nI 6) * l1)) + l3))) fun v2 => (if v2 = (nI 1) then gd (((nI 400) + ((nI 6) * l1)) + l3) 7460 (oli (M 201 (ix (((nI 400) + ((nI 6) * l1)) + l3))) fun v3 => (if v3 = l2 then some (l3, M) else xX12_turn_2  n l1 l2 (l3 + (nI 1)) M)) else xX12_turn_2  n l1 l2 (l3 + (nI 1)) M))))
set_option maxRecDepth 20000 in
set_option maxHeartbeats 2000000 in
theorem tX12_turn_2    : ∀ (n : Nat) (l1 : Int32) (l2 : Int32) (l3 : Int32) (M : j_M), J (ρ := Int32 × j_M) yX12_turn cX12_turn 4 (some .int) 0 0 j_ei 2 [(0, .inr (17, 0, 200)), (1, .inl (l1)), (2, .inl (l2)), (3, .inl (l3))] [] M (xX12_turn_2  n l1 l2 l3 M) := by
  intro n
  induction n with
  | zero => intros; exact J_none
  | succ n ih =>
    intro l1 l2 l3 M
    rw [xX12_turn_2.eq_2]
    refine K_iload_n (q := 3) 3 dX12_turn_2 rfl rfl rfl ?_
    refine K_aload_n (q := 4) 0 dX12_turn_3 rfl rfl rfl ?_
    refine K_getR (q := 7) (ci := 7) (a2 := 201) 0 dX12_turn_4 fRX12_9 rfl rfl (by decide) rfl rfl ?_
    refine K_iconst (q := 8) (v := nI 0) dX12_turn_7 rfl rfl ?_
    refine K_iald (q := 9) dX12_turn_8 rfl (fun v1 => ?_)
    refine K_icmp_ge (q := 12) (tgt := 58) dX12_turn_9 rfl ?_ rfl ?_
    · refine K_iconst (q := 59) (v := -1) dX12_turn_58 rfl rfl ?_
      exact J_iret dX12_turn_59
    · refine K_aload_n (q := 13) 0 dX12_turn_12 rfl rfl rfl ?_
      refine K_getR (q := 16) (ci := 7) (a2 := 201) 0 dX12_turn_13 fRX12_9 rfl rfl (by decide) rfl rfl ?_
      refine K_sipush (q := 19) (v := nI 358) dX12_turn_16 rfl rfl ?_
      refine K_bipush (q := 21) (v := nI 6) dX12_turn_19 rfl rfl ?_
      refine K_iload_n (q := 22) 1 dX12_turn_21 rfl rfl rfl ?_
      refine K_imul (q := 23) dX12_turn_22 rfl ?_
      refine K_iadd (q := 24) dX12_turn_23 rfl ?_
      refine K_iload_n (q := 25) 3 dX12_turn_24 rfl rfl rfl ?_
      refine K_iadd (q := 26) dX12_turn_25 rfl ?_
      refine K_iald (q := 27) dX12_turn_26 rfl (fun v2 => ?_)
      refine K_iconst (q := 28) (v := nI 1) dX12_turn_27 rfl rfl ?_
      refine K_icmp_ne (q := 31) (tgt := 52) dX12_turn_28 rfl ?_ rfl ?_
      · refine K_iinc (q := 55) (v := l3 + (nI 1)) (ll' := [(3, .inl (l3 + (nI 1))), (0, .inr (17, 0, 200)), (1, .inl (l1)), (2, .inl (l2))]) 3 dX12_turn_52 rfl rfl (by decide) rfl rfl ?_
        refine J_goto (tgt := 2) dX12_turn_55 rfl ?_
        exact J_sub [1, 2, 3, 0] (ih l1 l2 (l3 + (nI 1)) M) rfl
      · refine K_aload_n (q := 32) 0 dX12_turn_31 rfl rfl rfl ?_
        refine K_getR (q := 35) (ci := 7) (a2 := 201) 0 dX12_turn_32 fRX12_9 rfl rfl (by decide) rfl rfl ?_
        refine K_sipush (q := 38) (v := nI 400) dX12_turn_35 rfl rfl ?_
        refine K_bipush (q := 40) (v := nI 6) dX12_turn_38 rfl rfl ?_
        refine K_iload_n (q := 41) 1 dX12_turn_40 rfl rfl rfl ?_
        refine K_imul (q := 42) dX12_turn_41 rfl ?_
        refine K_iadd (q := 43) dX12_turn_42 rfl ?_
        refine K_iload_n (q := 44) 3 dX12_turn_43 rfl rfl rfl ?_
        refine K_iadd (q := 45) dX12_turn_44 rfl ?_
        refine K_iald (q := 46) dX12_turn_45 rfl (fun v3 => ?_)
        refine K_iload_n (q := 47) 2 dX12_turn_46 rfl rfl rfl ?_
        refine K_icmp_ne (q := 50) (tgt := 52) dX12_turn_47 rfl ?_ rfl ?_
        · refine K_iinc (q := 55) (v := l3 + (nI 1)) (ll' := [(3, .inl (l3 + (nI 1))), (0, .inr (17, 0, 200)), (1, .inl (l1)), (2, .inl (l2))]) 3 dX12_turn_52 rfl rfl (by decide) rfl rfl ?_
          refine J_goto (tgt := 2) dX12_turn_55 rfl ?_
          exact J_sub [1, 2, 3, 0] (ih l1 l2 (l3 + (nI 1)) M) rfl
        · refine K_iload_n (q := 51) 3 dX12_turn_50 rfl rfl rfl ?_
          exact J_iret dX12_turn_51
def xX12_turn  (l1 : Int32) (l2 : Int32) (M : j_M) : Option (Int32 × j_M) := xX12_turn_2 fu l1 l2 (nI 0) M
set_option maxRecDepth 20000 in
set_option maxHeartbeats 2000000 in
theorem tX12_turn  (l1 : Int32) (l2 : Int32) (M : j_M) : J (ρ := Int32 × j_M) yX12_turn cX12_turn 4 (some .int) 0 0 j_ei 0 [(0, .inr (17, 0, 200)), (1, .inl (l1)), (2, .inl (l2))] [] M (xX12_turn  l1 l2 M) := by
  unfold xX12_turn
  refine K_iconst (q := 1) (v := nI 0) dX12_turn_0 rfl rfl ?_
  refine K_istore_n (q := 2) (ll' := [(3, .inl ((nI 0))), (0, .inr (17, 0, 200)), (1, .inl (l1)), (2, .inl (l2))]) dX12_turn_1 rfl (by decide) rfl rfl ?_
  exact J_sub [1, 2, 3, 0] (tX12_turn_2 fu l1 l2 (nI 0) M) rfl
theorem dX12_isNode_0 : decode cX12_isNode 0 = .ok (.aload_n 0, 1) := by decide +kernel
theorem dX12_isNode_1 : decode cX12_isNode 1 = .ok (.iload_n 1, 1) := by decide +kernel
theorem dX12_isNode_2 : decode cX12_isNode 2 = .ok (.invokevirtual 69, 3) := by decide +kernel
theorem dX12_isNode_5 : decode cX12_isNode 5 = .ok (.ifCond .ne 9, 3) := by decide +kernel
theorem dX12_isNode_8 : decode cX12_isNode 8 = .ok (.iload_n 1, 1) := by decide +kernel
theorem dX12_isNode_9 : decode cX12_isNode 9 = .ok (.bipush 6, 2) := by decide +kernel
theorem dX12_isNode_11 : decode cX12_isNode 11 = .ok (.if_icmp .ne 7, 3) := by decide +kernel
theorem dX12_isNode_14 : decode cX12_isNode 14 = .ok (.iconst 1, 1) := by decide +kernel
theorem dX12_isNode_15 : decode cX12_isNode 15 = .ok (.goto 4, 3) := by decide +kernel
theorem dX12_isNode_18 : decode cX12_isNode 18 = .ok (.iconst 0, 1) := by decide +kernel
theorem dX12_isNode_19 : decode cX12_isNode 19 = .ok (.ireturn, 1) := by decide +kernel
def xX12_isNode  (l1 : Int32) (M : j_M) : Option (Int32 × j_M) := obi (xX12_isCpu l1 M) fun v2 M1 => (if v2 = (0 : Int32) then (if l1 = (nI 6) then some ((nI 1), M1) else some ((nI 0), M1)) else some ((nI 1), M1))
set_option maxRecDepth 20000 in
set_option maxHeartbeats 2000000 in
theorem tX12_isNode  (l1 : Int32) (M : j_M) : J (ρ := Int32 × j_M) yX12_isNode cX12_isNode 2 (some .boolean) 2 43 j_ei 0 [(0, .inr (17, 0, 200)), (1, .inl (l1))] [] M (xX12_isNode  l1 M) := by
  unfold xX12_isNode
  refine K_aload_n (q := 1) 0 dX12_isNode_0 rfl rfl rfl ?_
  refine K_iload_n (q := 2) 1 dX12_isNode_1 rfl rfl rfl ?_
  refine K_cvi (q := 5) [.inl (l1)] dX12_isNode_2 cb_X12_isCpu cvRX12_69 rc_7 (show (17 : Nat) ≠ 0 by decide) rfl (Nat.le_of_ble_eq_true rfl) ⟨by decide, by decide⟩ (Nat.le_of_ble_eq_true rfl) rfl (tX12_isCpu l1 M) rfl (fun v2 M1 => ?_)
  refine K_if_ne (q := 8) (tgt := 14) dX12_isNode_5 rfl ?_ rfl ?_
  · refine K_iconst (q := 15) (v := nI 1) dX12_isNode_14 rfl rfl ?_
    refine J_goto (tgt := 19) dX12_isNode_15 rfl ?_
    exact J_zret dX12_isNode_19 (by decide)
  · refine K_iload_n (q := 9) 1 dX12_isNode_8 rfl rfl rfl ?_
    refine K_bipush (q := 11) (v := nI 6) dX12_isNode_9 rfl rfl ?_
    refine K_icmp_ne (q := 14) (tgt := 18) dX12_isNode_11 rfl ?_ rfl ?_
    · refine K_iconst (q := 19) (v := nI 0) dX12_isNode_18 rfl rfl ?_
      exact J_zret dX12_isNode_19 (by decide)
    · refine K_iconst (q := 15) (v := nI 1) dX12_isNode_14 rfl rfl ?_
      refine J_goto (tgt := 19) dX12_isNode_15 rfl ?_
      exact J_zret dX12_isNode_19 (by decide)
theorem dX12_tellsAll_0 : decode cX12_tellsAll 0 = .ok (.iconst 0, 1) := by decide +kernel
theorem dX12_tellsAll_1 : decode cX12_tellsAll 1 = .ok (.istore 5, 2) := by decide +kernel
theorem dX12_tellsAll_3 : decode cX12_tellsAll 3 = .ok (.iload 5, 2) := by decide +kernel
theorem dX12_tellsAll_5 : decode cX12_tellsAll 5 = .ok (.bipush 6, 2) := by decide +kernel
theorem dX12_tellsAll_7 : decode cX12_tellsAll 7 = .ok (.if_icmp .gt 75, 3) := by decide +kernel
theorem dX12_tellsAll_10 : decode cX12_tellsAll 10 = .ok (.iload 5, 2) := by decide +kernel
theorem dX12_tellsAll_12 : decode cX12_tellsAll 12 = .ok (.iload_n 1, 1) := by decide +kernel
theorem dX12_tellsAll_13 : decode cX12_tellsAll 13 = .ok (.if_icmp .eq 63, 3) := by decide +kernel
theorem dX12_tellsAll_16 : decode cX12_tellsAll 16 = .ok (.aload_n 0, 1) := by decide +kernel
theorem dX12_tellsAll_17 : decode cX12_tellsAll 17 = .ok (.iload 5, 2) := by decide +kernel
theorem dX12_tellsAll_19 : decode cX12_tellsAll 19 = .ok (.invokevirtual 119, 3) := by decide +kernel
theorem dX12_tellsAll_22 : decode cX12_tellsAll 22 = .ok (.ifCond .ne 6, 3) := by decide +kernel
theorem dX12_tellsAll_25 : decode cX12_tellsAll 25 = .ok (.goto 51, 3) := by decide +kernel
theorem dX12_tellsAll_28 : decode cX12_tellsAll 28 = .ok (.aload_n 0, 1) := by decide +kernel
theorem dX12_tellsAll_29 : decode cX12_tellsAll 29 = .ok (.iload_n 1, 1) := by decide +kernel
theorem dX12_tellsAll_30 : decode cX12_tellsAll 30 = .ok (.iload 5, 2) := by decide +kernel
theorem dX12_tellsAll_32 : decode cX12_tellsAll 32 = .ok (.iload_n 2, 1) := by decide +kernel
theorem dX12_tellsAll_33 : decode cX12_tellsAll 33 = .ok (.iload_n 3, 1) := by decide +kernel
theorem dX12_tellsAll_34 : decode cX12_tellsAll 34 = .ok (.invokevirtual 86, 3) := by decide +kernel
theorem dX12_tellsAll_37 : decode cX12_tellsAll 37 = .ok (.istore 6, 2) := by decide +kernel
theorem dX12_tellsAll_39 : decode cX12_tellsAll 39 = .ok (.aload_n 0, 1) := by decide +kernel
theorem dX12_tellsAll_40 : decode cX12_tellsAll 40 = .ok (.getfield 9, 3) := by decide +kernel
theorem dX12_tellsAll_43 : decode cX12_tellsAll 43 = .ok (.iload 6, 2) := by decide +kernel
theorem dX12_tellsAll_45 : decode cX12_tellsAll 45 = .ok (.bipush 7, 2) := by decide +kernel
theorem dX12_tellsAll_47 : decode cX12_tellsAll 47 = .ok (.iadd, 1) := by decide +kernel
theorem dX12_tellsAll_48 : decode cX12_tellsAll 48 = .ok (.aload_n 0, 1) := by decide +kernel
theorem dX12_tellsAll_49 : decode cX12_tellsAll 49 = .ok (.getfield 9, 3) := by decide +kernel
theorem dX12_tellsAll_52 : decode cX12_tellsAll 52 = .ok (.sipush 316, 3) := by decide +kernel
theorem dX12_tellsAll_55 : decode cX12_tellsAll 55 = .ok (.bipush 6, 2) := by decide +kernel
theorem dX12_tellsAll_57 : decode cX12_tellsAll 57 = .ok (.iload_n 1, 1) := by decide +kernel
theorem dX12_tellsAll_58 : decode cX12_tellsAll 58 = .ok (.imul, 1) := by decide +kernel
theorem dX12_tellsAll_59 : decode cX12_tellsAll 59 = .ok (.iadd, 1) := by decide +kernel
theorem dX12_tellsAll_60 : decode cX12_tellsAll 60 = .ok (.iload_n 1, 1) := by decide +kernel
theorem dX12_tellsAll_61 : decode cX12_tellsAll 61 = .ok (.iadd, 1) := by decide +kernel
theorem dX12_tellsAll_62 : decode cX12_tellsAll 62 = .ok (.iaload, 1) := by decide +kernel
theorem dX12_tellsAll_63 : decode cX12_tellsAll 63 = .ok (.iastore, 1) := by decide +kernel
theorem dX12_tellsAll_64 : decode cX12_tellsAll 64 = .ok (.aload_n 0, 1) := by decide +kernel
theorem dX12_tellsAll_65 : decode cX12_tellsAll 65 = .ok (.getfield 9, 3) := by decide +kernel
theorem dX12_tellsAll_68 : decode cX12_tellsAll 68 = .ok (.iload 6, 2) := by decide +kernel
theorem dX12_tellsAll_70 : decode cX12_tellsAll 70 = .ok (.bipush 8, 2) := by decide +kernel
theorem dX12_tellsAll_72 : decode cX12_tellsAll 72 = .ok (.iadd, 1) := by decide +kernel
theorem dX12_tellsAll_73 : decode cX12_tellsAll 73 = .ok (.iload 4, 2) := by decide +kernel
theorem dX12_tellsAll_75 : decode cX12_tellsAll 75 = .ok (.iastore, 1) := by decide +kernel
theorem dX12_tellsAll_76 : decode cX12_tellsAll 76 = .ok (.iinc 5 1, 3) := by decide +kernel
theorem dX12_tellsAll_79 : decode cX12_tellsAll 79 = .ok (.goto (-76), 3) := by decide +kernel
theorem dX12_tellsAll_82 : decode cX12_tellsAll 82 = .ok (.return_, 1) := by decide +kernel
def xX12_tellsAll_3   : Nat → Int32 → Int32 → Int32 → Int32 → Int32 → j_M → Option (j_M)
  | 0, _, _, _, _, _, _ => none
  | n + 1, l1, l2, l3, l4, l5, M => (if (nI 6) < l5 then some M else (if l5 = l1 then xX12_tellsAll_3  n l1 l2 l3 l4 (l5 + (nI 1)) M else obi (xX12_isNode l5 M) fun v2 M1 => (if v2 = (0 : Int32) then xX12_tellsAll_3  n l1 l2 l3 l4 (l5 + (nI 1)) M1 else obi (xX12_sends l1 l5 l2 l3 M1) fun v4 M3 => gd (((nI 316) + ((nI 6) * l1)) + l1) 7460 (oli (M3 201 (ix (((nI 316) + ((nI 6) * l1)) + l1))) fun v5 => gd (v4 + (nI 7)) 7460 (oml (mw M3 201 (ix (v4 + (nI 7))) v5) fun M6 => gd (v4 + (nI 8)) 7460 (oml (mw M6 201 (ix (v4 + (nI 8))) l4) fun M7 => xX12_tellsAll_3  n l1 l2 l3 l4 (l5 + (nI 1)) M7))))))
set_option maxRecDepth 20000 in
set_option maxHeartbeats 2000000 in
theorem tX12_tellsAll_3    : ∀ (n : Nat) (l1 : Int32) (l2 : Int32) (l3 : Int32) (l4 : Int32) (l5 : Int32) (M : j_M), J (ρ := j_M) yX12_tellsAll cX12_tellsAll 7 none 3 64 j_ev 3 [(0, .inr (17, 0, 200)), (1, .inl (l1)), (2, .inl (l2)), (3, .inl (l3)), (4, .inl (l4)), (5, .inl (l5))] [] M (xX12_tellsAll_3  n l1 l2 l3 l4 l5 M) := by
  intro n
  induction n with
  | zero => intros; exact J_none
  | succ n ih =>
    intro l1 l2 l3 l4 l5 M
    rw [xX12_tellsAll_3.eq_2]
    refine K_iload (q := 5) 5 dX12_tellsAll_3 rfl rfl ?_
    refine K_bipush (q := 7) (v := nI 6) dX12_tellsAll_5 rfl rfl ?_
    refine K_icmp_gt (q := 10) (tgt := 82) dX12_tellsAll_7 rfl ?_ rfl ?_
    · exact J_vret dX12_tellsAll_82
    · refine K_iload (q := 12) 5 dX12_tellsAll_10 rfl rfl ?_
      refine K_iload_n (q := 13) 1 dX12_tellsAll_12 rfl rfl rfl ?_
      refine K_icmp_eq (q := 16) (tgt := 76) dX12_tellsAll_13 rfl ?_ rfl ?_
      · refine K_iinc (q := 79) (v := l5 + (nI 1)) (ll' := [(5, .inl (l5 + (nI 1))), (0, .inr (17, 0, 200)), (1, .inl (l1)), (2, .inl (l2)), (3, .inl (l3)), (4, .inl (l4))]) 5 dX12_tellsAll_76 rfl rfl (by decide) rfl rfl ?_
        refine J_goto (tgt := 3) dX12_tellsAll_79 rfl ?_
        exact J_sub [1, 2, 3, 4, 5, 0] (ih l1 l2 l3 l4 (l5 + (nI 1)) M) rfl
      · refine K_aload_n (q := 17) 0 dX12_tellsAll_16 rfl rfl rfl ?_
        refine K_iload (q := 19) 5 dX12_tellsAll_17 rfl rfl ?_
        refine K_cvi (q := 22) [.inl (l5)] dX12_tellsAll_19 cb_X12_isNode cvRX12_119 rc_7 (show (17 : Nat) ≠ 0 by decide) rfl (Nat.le_of_ble_eq_true rfl) ⟨by decide, by decide⟩ (Nat.le_of_ble_eq_true rfl) rfl (tX12_isNode l5 M) rfl (fun v2 M1 => ?_)
        refine K_if_ne (q := 25) (tgt := 28) dX12_tellsAll_22 rfl ?_ rfl ?_
        · refine K_aload_n (q := 29) 0 dX12_tellsAll_28 rfl rfl rfl ?_
          refine K_iload_n (q := 30) 1 dX12_tellsAll_29 rfl rfl rfl ?_
          refine K_iload (q := 32) 5 dX12_tellsAll_30 rfl rfl ?_
          refine K_iload_n (q := 33) 2 dX12_tellsAll_32 rfl rfl rfl ?_
          refine K_iload_n (q := 34) 3 dX12_tellsAll_33 rfl rfl rfl ?_
          refine K_cvi (q := 37) [.inl (l1), .inl (l5), .inl (l2), .inl (l3)] dX12_tellsAll_34 cb_X12_sends cvRX12_86 rc_7 (show (17 : Nat) ≠ 0 by decide) rfl (Nat.le_of_ble_eq_true rfl) ⟨by decide, by decide⟩ (Nat.le_of_ble_eq_true rfl) rfl (tX12_sends l1 l5 l2 l3 M1) rfl (fun v4 M3 => ?_)
          refine K_istore (q := 39) (ll' := [(6, .inl (v4)), (0, .inr (17, 0, 200)), (1, .inl (l1)), (2, .inl (l2)), (3, .inl (l3)), (4, .inl (l4)), (5, .inl (l5))]) dX12_tellsAll_37 (by decide) rfl rfl ?_
          refine K_aload_n (q := 40) 1 dX12_tellsAll_39 rfl rfl rfl ?_
          refine K_getR (q := 43) (ci := 7) (a2 := 201) 0 dX12_tellsAll_40 fRX12_9 rfl rfl (by decide) rfl rfl ?_
          refine K_iload (q := 45) 0 dX12_tellsAll_43 rfl rfl ?_
          refine K_bipush (q := 47) (v := nI 7) dX12_tellsAll_45 rfl rfl ?_
          refine K_iadd (q := 48) dX12_tellsAll_47 rfl ?_
          refine K_aload_n (q := 49) 1 dX12_tellsAll_48 rfl rfl rfl ?_
          refine K_getR (q := 52) (ci := 7) (a2 := 201) 0 dX12_tellsAll_49 fRX12_9 rfl rfl (by decide) rfl rfl ?_
          refine K_sipush (q := 55) (v := nI 316) dX12_tellsAll_52 rfl rfl ?_
          refine K_bipush (q := 57) (v := nI 6) dX12_tellsAll_55 rfl rfl ?_
          refine K_iload_n (q := 58) 2 dX12_tellsAll_57 rfl rfl rfl ?_
          refine K_imul (q := 59) dX12_tellsAll_58 rfl ?_
          refine K_iadd (q := 60) dX12_tellsAll_59 rfl ?_
          refine K_iload_n (q := 61) 2 dX12_tellsAll_60 rfl rfl rfl ?_
          refine K_iadd (q := 62) dX12_tellsAll_61 rfl ?_
          refine K_iald (q := 63) dX12_tellsAll_62 rfl (fun v5 => ?_)
          refine K_iast (q := 64) dX12_tellsAll_63 rfl (fun M6 => ?_)
          refine K_aload_n (q := 65) 1 dX12_tellsAll_64 rfl rfl rfl ?_
          refine K_getR (q := 68) (ci := 7) (a2 := 201) 0 dX12_tellsAll_65 fRX12_9 rfl rfl (by decide) rfl rfl ?_
          refine K_iload (q := 70) 0 dX12_tellsAll_68 rfl rfl ?_
          refine K_bipush (q := 72) (v := nI 8) dX12_tellsAll_70 rfl rfl ?_
          refine K_iadd (q := 73) dX12_tellsAll_72 rfl ?_
          refine K_iload (q := 75) 5 dX12_tellsAll_73 rfl rfl ?_
          refine K_iast (q := 76) dX12_tellsAll_75 rfl (fun M7 => ?_)
          refine K_iinc (q := 79) (v := l5 + (nI 1)) (ll' := [(5, .inl (l5 + (nI 1))), (6, .inl (v4)), (0, .inr (17, 0, 200)), (1, .inl (l1)), (2, .inl (l2)), (3, .inl (l3)), (4, .inl (l4))]) 6 dX12_tellsAll_76 rfl rfl (by decide) rfl rfl ?_
          refine J_goto (tgt := 3) dX12_tellsAll_79 rfl ?_
          exact J_sub [2, 3, 4, 5, 6, 0] (ih l1 l2 l3 l4 (l5 + (nI 1)) M7) rfl
        · refine J_goto (tgt := 76) dX12_tellsAll_25 rfl ?_
          refine K_iinc (q := 79) (v := l5 + (nI 1)) (ll' := [(5, .inl (l5 + (nI 1))), (0, .inr (17, 0, 200)), (1, .inl (l1)), (2, .inl (l2)), (3, .inl (l3)), (4, .inl (l4))]) 5 dX12_tellsAll_76 rfl rfl (by decide) rfl rfl ?_
          refine J_goto (tgt := 3) dX12_tellsAll_79 rfl ?_
          exact J_sub [1, 2, 3, 4, 5, 0] (ih l1 l2 l3 l4 (l5 + (nI 1)) M1) rfl
def xX12_tellsAll  (l1 : Int32) (l2 : Int32) (l3 : Int32) (l4 : Int32) (M : j_M) : Option (j_M) := xX12_tellsAll_3 fu l1 l2 l3 l4 (nI 0) M
set_option maxRecDepth 20000 in
set_option maxHeartbeats 2000000 in
theorem tX12_tellsAll  (l1 : Int32) (l2 : Int32) (l3 : Int32) (l4 : Int32) (M : j_M) : J (ρ := j_M) yX12_tellsAll cX12_tellsAll 7 none 3 64 j_ev 0 [(0, .inr (17, 0, 200)), (1, .inl (l1)), (2, .inl (l2)), (3, .inl (l3)), (4, .inl (l4))] [] M (xX12_tellsAll  l1 l2 l3 l4 M) := by
  unfold xX12_tellsAll
  refine K_iconst (q := 1) (v := nI 0) dX12_tellsAll_0 rfl rfl ?_
  refine K_istore (q := 3) (ll' := [(5, .inl ((nI 0))), (0, .inr (17, 0, 200)), (1, .inl (l1)), (2, .inl (l2)), (3, .inl (l3)), (4, .inl (l4))]) dX12_tellsAll_1 (by decide) rfl rfl ?_
  exact J_sub [1, 2, 3, 4, 5, 0] (tX12_tellsAll_3 fu l1 l2 l3 l4 (nI 0) M) rfl
theorem dX12_ends_0 : decode cX12_ends 0 = .ok (.aload_n 0, 1) := by decide +kernel
theorem dX12_ends_1 : decode cX12_ends 1 = .ok (.getfield 9, 3) := by decide +kernel
theorem dX12_ends_4 : decode cX12_ends 4 = .ok (.sipush 292, 3) := by decide +kernel
theorem dX12_ends_7 : decode cX12_ends 7 = .ok (.iload_n 1, 1) := by decide +kernel
theorem dX12_ends_8 : decode cX12_ends 8 = .ok (.iadd, 1) := by decide +kernel
theorem dX12_ends_9 : decode cX12_ends 9 = .ok (.iaload, 1) := by decide +kernel
theorem dX12_ends_10 : decode cX12_ends 10 = .ok (.istore_n 2, 1) := by decide +kernel
theorem dX12_ends_11 : decode cX12_ends 11 = .ok (.aload_n 0, 1) := by decide +kernel
theorem dX12_ends_12 : decode cX12_ends 12 = .ok (.iconst 2, 1) := by decide +kernel
theorem dX12_ends_13 : decode cX12_ends 13 = .ok (.iload_n 1, 1) := by decide +kernel
theorem dX12_ends_14 : decode cX12_ends 14 = .ok (.iload_n 2, 1) := by decide +kernel
theorem dX12_ends_15 : decode cX12_ends 15 = .ok (.invokevirtual 122, 3) := by decide +kernel
theorem dX12_ends_18 : decode cX12_ends 18 = .ok (.aload_n 0, 1) := by decide +kernel
theorem dX12_ends_19 : decode cX12_ends 19 = .ok (.iload_n 1, 1) := by decide +kernel
theorem dX12_ends_20 : decode cX12_ends 20 = .ok (.iload_n 2, 1) := by decide +kernel
theorem dX12_ends_21 : decode cX12_ends 21 = .ok (.aload_n 0, 1) := by decide +kernel
theorem dX12_ends_22 : decode cX12_ends 22 = .ok (.getfield 9, 3) := by decide +kernel
theorem dX12_ends_25 : decode cX12_ends 25 = .ok (.sipush 298, 3) := by decide +kernel
theorem dX12_ends_28 : decode cX12_ends 28 = .ok (.iload_n 1, 1) := by decide +kernel
theorem dX12_ends_29 : decode cX12_ends 29 = .ok (.iadd, 1) := by decide +kernel
theorem dX12_ends_30 : decode cX12_ends 30 = .ok (.iaload, 1) := by decide +kernel
theorem dX12_ends_31 : decode cX12_ends 31 = .ok (.aload_n 0, 1) := by decide +kernel
theorem dX12_ends_32 : decode cX12_ends 32 = .ok (.getfield 9, 3) := by decide +kernel
theorem dX12_ends_35 : decode cX12_ends 35 = .ok (.sipush 304, 3) := by decide +kernel
theorem dX12_ends_38 : decode cX12_ends 38 = .ok (.iload_n 1, 1) := by decide +kernel
theorem dX12_ends_39 : decode cX12_ends 39 = .ok (.iadd, 1) := by decide +kernel
theorem dX12_ends_40 : decode cX12_ends 40 = .ok (.iaload, 1) := by decide +kernel
theorem dX12_ends_41 : decode cX12_ends 41 = .ok (.invokevirtual 137, 3) := by decide +kernel
theorem dX12_ends_44 : decode cX12_ends 44 = .ok (.aload_n 0, 1) := by decide +kernel
theorem dX12_ends_45 : decode cX12_ends 45 = .ok (.getfield 9, 3) := by decide +kernel
theorem dX12_ends_48 : decode cX12_ends 48 = .ok (.sipush 310, 3) := by decide +kernel
theorem dX12_ends_51 : decode cX12_ends 51 = .ok (.iload_n 1, 1) := by decide +kernel
theorem dX12_ends_52 : decode cX12_ends 52 = .ok (.iadd, 1) := by decide +kernel
theorem dX12_ends_53 : decode cX12_ends 53 = .ok (.iaload, 1) := by decide +kernel
theorem dX12_ends_54 : decode cX12_ends 54 = .ok (.iconst 1, 1) := by decide +kernel
theorem dX12_ends_55 : decode cX12_ends 55 = .ok (.if_icmp .ne 7, 3) := by decide +kernel
theorem dX12_ends_58 : decode cX12_ends 58 = .ok (.iconst 1, 1) := by decide +kernel
theorem dX12_ends_59 : decode cX12_ends 59 = .ok (.goto 4, 3) := by decide +kernel
theorem dX12_ends_62 : decode cX12_ends 62 = .ok (.iconst 0, 1) := by decide +kernel
theorem dX12_ends_63 : decode cX12_ends 63 = .ok (.istore_n 3, 1) := by decide +kernel
theorem dX12_ends_64 : decode cX12_ends 64 = .ok (.aload_n 0, 1) := by decide +kernel
theorem dX12_ends_65 : decode cX12_ends 65 = .ok (.getfield 9, 3) := by decide +kernel
theorem dX12_ends_68 : decode cX12_ends 68 = .ok (.sipush 292, 3) := by decide +kernel
theorem dX12_ends_71 : decode cX12_ends 71 = .ok (.iload_n 1, 1) := by decide +kernel
theorem dX12_ends_72 : decode cX12_ends 72 = .ok (.iadd, 1) := by decide +kernel
theorem dX12_ends_73 : decode cX12_ends 73 = .ok (.iconst (-1), 1) := by decide +kernel
theorem dX12_ends_74 : decode cX12_ends 74 = .ok (.iastore, 1) := by decide +kernel
theorem dX12_ends_75 : decode cX12_ends 75 = .ok (.aload_n 0, 1) := by decide +kernel
theorem dX12_ends_76 : decode cX12_ends 76 = .ok (.getfield 9, 3) := by decide +kernel
theorem dX12_ends_79 : decode cX12_ends 79 = .ok (.sipush 298, 3) := by decide +kernel
theorem dX12_ends_82 : decode cX12_ends 82 = .ok (.iload_n 1, 1) := by decide +kernel
theorem dX12_ends_83 : decode cX12_ends 83 = .ok (.iadd, 1) := by decide +kernel
theorem dX12_ends_84 : decode cX12_ends 84 = .ok (.iconst 0, 1) := by decide +kernel
theorem dX12_ends_85 : decode cX12_ends 85 = .ok (.iastore, 1) := by decide +kernel
theorem dX12_ends_86 : decode cX12_ends 86 = .ok (.aload_n 0, 1) := by decide +kernel
theorem dX12_ends_87 : decode cX12_ends 87 = .ok (.getfield 9, 3) := by decide +kernel
theorem dX12_ends_90 : decode cX12_ends 90 = .ok (.sipush 304, 3) := by decide +kernel
theorem dX12_ends_93 : decode cX12_ends 93 = .ok (.iload_n 1, 1) := by decide +kernel
theorem dX12_ends_94 : decode cX12_ends 94 = .ok (.iadd, 1) := by decide +kernel
theorem dX12_ends_95 : decode cX12_ends 95 = .ok (.iconst 0, 1) := by decide +kernel
theorem dX12_ends_96 : decode cX12_ends 96 = .ok (.iastore, 1) := by decide +kernel
theorem dX12_ends_97 : decode cX12_ends 97 = .ok (.aload_n 0, 1) := by decide +kernel
theorem dX12_ends_98 : decode cX12_ends 98 = .ok (.getfield 9, 3) := by decide +kernel
theorem dX12_ends_101 : decode cX12_ends 101 = .ok (.sipush 310, 3) := by decide +kernel
theorem dX12_ends_104 : decode cX12_ends 104 = .ok (.iload_n 1, 1) := by decide +kernel
theorem dX12_ends_105 : decode cX12_ends 105 = .ok (.iadd, 1) := by decide +kernel
theorem dX12_ends_106 : decode cX12_ends 106 = .ok (.iconst 0, 1) := by decide +kernel
theorem dX12_ends_107 : decode cX12_ends 107 = .ok (.iastore, 1) := by decide +kernel
theorem dX12_ends_108 : decode cX12_ends 108 = .ok (.aload_n 0, 1) := by decide +kernel
theorem dX12_ends_109 : decode cX12_ends 109 = .ok (.getfield 9, 3) := by decide +kernel
theorem dX12_ends_112 : decode cX12_ends 112 = .ok (.bipush 10, 2) := by decide +kernel
theorem dX12_ends_114 : decode cX12_ends 114 = .ok (.dup2, 1) := by decide +kernel
theorem dX12_ends_115 : decode cX12_ends 115 = .ok (.iaload, 1) := by decide +kernel
theorem dX12_ends_116 : decode cX12_ends 116 = .ok (.iconst 1, 1) := by decide +kernel
theorem dX12_ends_117 : decode cX12_ends 117 = .ok (.iadd, 1) := by decide +kernel
theorem dX12_ends_118 : decode cX12_ends 118 = .ok (.iastore, 1) := by decide +kernel
theorem dX12_ends_119 : decode cX12_ends 119 = .ok (.aload_n 0, 1) := by decide +kernel
theorem dX12_ends_120 : decode cX12_ends 120 = .ok (.getfield 9, 3) := by decide +kernel
theorem dX12_ends_123 : decode cX12_ends 123 = .ok (.iconst 5, 1) := by decide +kernel
theorem dX12_ends_124 : decode cX12_ends 124 = .ok (.iaload, 1) := by decide +kernel
theorem dX12_ends_125 : decode cX12_ends 125 = .ok (.aload_n 0, 1) := by decide +kernel
theorem dX12_ends_126 : decode cX12_ends 126 = .ok (.getfield 9, 3) := by decide +kernel
theorem dX12_ends_129 : decode cX12_ends 129 = .ok (.sipush 6730, 3) := by decide +kernel
theorem dX12_ends_132 : decode cX12_ends 132 = .ok (.iload_n 1, 1) := by decide +kernel
theorem dX12_ends_133 : decode cX12_ends 133 = .ok (.iadd, 1) := by decide +kernel
theorem dX12_ends_134 : decode cX12_ends 134 = .ok (.iaload, 1) := by decide +kernel
theorem dX12_ends_135 : decode cX12_ends 135 = .ok (.isub, 1) := by decide +kernel
theorem dX12_ends_136 : decode cX12_ends 136 = .ok (.istore 4, 2) := by decide +kernel
theorem dX12_ends_138 : decode cX12_ends 138 = .ok (.aload_n 0, 1) := by decide +kernel
theorem dX12_ends_139 : decode cX12_ends 139 = .ok (.getfield 9, 3) := by decide +kernel
theorem dX12_ends_142 : decode cX12_ends 142 = .ok (.sipush 6736, 3) := by decide +kernel
theorem dX12_ends_145 : decode cX12_ends 145 = .ok (.iconst 5, 1) := by decide +kernel
theorem dX12_ends_146 : decode cX12_ends 146 = .ok (.iload_n 1, 1) := by decide +kernel
theorem dX12_ends_147 : decode cX12_ends 147 = .ok (.imul, 1) := by decide +kernel
theorem dX12_ends_148 : decode cX12_ends 148 = .ok (.iadd, 1) := by decide +kernel
theorem dX12_ends_149 : decode cX12_ends 149 = .ok (.iconst 1, 1) := by decide +kernel
theorem dX12_ends_150 : decode cX12_ends 150 = .ok (.iadd, 1) := by decide +kernel
theorem dX12_ends_151 : decode cX12_ends 151 = .ok (.dup2, 1) := by decide +kernel
theorem dX12_ends_152 : decode cX12_ends 152 = .ok (.iaload, 1) := by decide +kernel
theorem dX12_ends_153 : decode cX12_ends 153 = .ok (.iconst 1, 1) := by decide +kernel
theorem dX12_ends_154 : decode cX12_ends 154 = .ok (.iadd, 1) := by decide +kernel
theorem dX12_ends_155 : decode cX12_ends 155 = .ok (.iastore, 1) := by decide +kernel
theorem dX12_ends_156 : decode cX12_ends 156 = .ok (.aload_n 0, 1) := by decide +kernel
theorem dX12_ends_157 : decode cX12_ends 157 = .ok (.getfield 9, 3) := by decide +kernel
theorem dX12_ends_160 : decode cX12_ends 160 = .ok (.sipush 6736, 3) := by decide +kernel
theorem dX12_ends_163 : decode cX12_ends 163 = .ok (.iconst 5, 1) := by decide +kernel
theorem dX12_ends_164 : decode cX12_ends 164 = .ok (.iload_n 1, 1) := by decide +kernel
theorem dX12_ends_165 : decode cX12_ends 165 = .ok (.imul, 1) := by decide +kernel
theorem dX12_ends_166 : decode cX12_ends 166 = .ok (.iadd, 1) := by decide +kernel
theorem dX12_ends_167 : decode cX12_ends 167 = .ok (.iconst 2, 1) := by decide +kernel
theorem dX12_ends_168 : decode cX12_ends 168 = .ok (.iadd, 1) := by decide +kernel
theorem dX12_ends_169 : decode cX12_ends 169 = .ok (.dup2, 1) := by decide +kernel
theorem dX12_ends_170 : decode cX12_ends 170 = .ok (.iaload, 1) := by decide +kernel
theorem dX12_ends_171 : decode cX12_ends 171 = .ok (.iload 4, 2) := by decide +kernel
theorem dX12_ends_173 : decode cX12_ends 173 = .ok (.iadd, 1) := by decide +kernel
theorem dX12_ends_174 : decode cX12_ends 174 = .ok (.iastore, 1) := by decide +kernel
theorem dX12_ends_175 : decode cX12_ends 175 = .ok (.iload 4, 2) := by decide +kernel
theorem dX12_ends_177 : decode cX12_ends 177 = .ok (.aload_n 0, 1) := by decide +kernel
theorem dX12_ends_178 : decode cX12_ends 178 = .ok (.getfield 9, 3) := by decide +kernel
theorem dX12_ends_181 : decode cX12_ends 181 = .ok (.sipush 6736, 3) := by decide +kernel
theorem dX12_ends_184 : decode cX12_ends 184 = .ok (.iconst 5, 1) := by decide +kernel
theorem dX12_ends_185 : decode cX12_ends 185 = .ok (.iload_n 1, 1) := by decide +kernel
theorem dX12_ends_186 : decode cX12_ends 186 = .ok (.imul, 1) := by decide +kernel
theorem dX12_ends_187 : decode cX12_ends 187 = .ok (.iadd, 1) := by decide +kernel
theorem dX12_ends_188 : decode cX12_ends 188 = .ok (.iconst 3, 1) := by decide +kernel
theorem dX12_ends_189 : decode cX12_ends 189 = .ok (.iadd, 1) := by decide +kernel
theorem dX12_ends_190 : decode cX12_ends 190 = .ok (.iaload, 1) := by decide +kernel
theorem dX12_ends_191 : decode cX12_ends 191 = .ok (.if_icmp .le 19, 3) := by decide +kernel
theorem dX12_ends_194 : decode cX12_ends 194 = .ok (.aload_n 0, 1) := by decide +kernel
theorem dX12_ends_195 : decode cX12_ends 195 = .ok (.getfield 9, 3) := by decide +kernel
theorem dX12_ends_198 : decode cX12_ends 198 = .ok (.sipush 6736, 3) := by decide +kernel
theorem dX12_ends_201 : decode cX12_ends 201 = .ok (.iconst 5, 1) := by decide +kernel
theorem dX12_ends_202 : decode cX12_ends 202 = .ok (.iload_n 1, 1) := by decide +kernel
theorem dX12_ends_203 : decode cX12_ends 203 = .ok (.imul, 1) := by decide +kernel
theorem dX12_ends_204 : decode cX12_ends 204 = .ok (.iadd, 1) := by decide +kernel
theorem dX12_ends_205 : decode cX12_ends 205 = .ok (.iconst 3, 1) := by decide +kernel
theorem dX12_ends_206 : decode cX12_ends 206 = .ok (.iadd, 1) := by decide +kernel
theorem dX12_ends_207 : decode cX12_ends 207 = .ok (.iload 4, 2) := by decide +kernel
theorem dX12_ends_209 : decode cX12_ends 209 = .ok (.iastore, 1) := by decide +kernel
theorem dX12_ends_210 : decode cX12_ends 210 = .ok (.iload_n 3, 1) := by decide +kernel
theorem dX12_ends_211 : decode cX12_ends 211 = .ok (.ifCond .ne 4, 3) := by decide +kernel
theorem dX12_ends_214 : decode cX12_ends 214 = .ok (.return_, 1) := by decide +kernel
theorem dX12_ends_215 : decode cX12_ends 215 = .ok (.aload_n 0, 1) := by decide +kernel
theorem dX12_ends_216 : decode cX12_ends 216 = .ok (.getfield 9, 3) := by decide +kernel
theorem dX12_ends_219 : decode cX12_ends 219 = .ok (.sipush 358, 3) := by decide +kernel
theorem dX12_ends_222 : decode cX12_ends 222 = .ok (.bipush 6, 2) := by decide +kernel
theorem dX12_ends_224 : decode cX12_ends 224 = .ok (.iload_n 1, 1) := by decide +kernel
theorem dX12_ends_225 : decode cX12_ends 225 = .ok (.imul, 1) := by decide +kernel
theorem dX12_ends_226 : decode cX12_ends 226 = .ok (.iadd, 1) := by decide +kernel
theorem dX12_ends_227 : decode cX12_ends 227 = .ok (.iload_n 1, 1) := by decide +kernel
theorem dX12_ends_228 : decode cX12_ends 228 = .ok (.iadd, 1) := by decide +kernel
theorem dX12_ends_229 : decode cX12_ends 229 = .ok (.iconst 0, 1) := by decide +kernel
theorem dX12_ends_230 : decode cX12_ends 230 = .ok (.iastore, 1) := by decide +kernel
theorem dX12_ends_231 : decode cX12_ends 231 = .ok (.iconst 0, 1) := by decide +kernel
theorem dX12_ends_232 : decode cX12_ends 232 = .ok (.istore 5, 2) := by decide +kernel
theorem dX12_ends_234 : decode cX12_ends 234 = .ok (.iload 5, 2) := by decide +kernel
theorem dX12_ends_236 : decode cX12_ends 236 = .ok (.aload_n 0, 1) := by decide +kernel
theorem dX12_ends_237 : decode cX12_ends 237 = .ok (.getfield 9, 3) := by decide +kernel
theorem dX12_ends_240 : decode cX12_ends 240 = .ok (.iconst 0, 1) := by decide +kernel
theorem dX12_ends_241 : decode cX12_ends 241 = .ok (.iaload, 1) := by decide +kernel
theorem dX12_ends_242 : decode cX12_ends 242 = .ok (.if_icmp .ge 72, 3) := by decide +kernel
theorem dX12_ends_245 : decode cX12_ends 245 = .ok (.iload 5, 2) := by decide +kernel
theorem dX12_ends_247 : decode cX12_ends 247 = .ok (.iload_n 1, 1) := by decide +kernel
theorem dX12_ends_248 : decode cX12_ends 248 = .ok (.if_icmp .eq 60, 3) := by decide +kernel
theorem dX12_ends_251 : decode cX12_ends 251 = .ok (.aload_n 0, 1) := by decide +kernel
theorem dX12_ends_252 : decode cX12_ends 252 = .ok (.getfield 9, 3) := by decide +kernel
theorem dX12_ends_255 : decode cX12_ends 255 = .ok (.sipush 358, 3) := by decide +kernel
theorem dX12_ends_258 : decode cX12_ends 258 = .ok (.bipush 6, 2) := by decide +kernel
theorem dX12_ends_260 : decode cX12_ends 260 = .ok (.iload_n 1, 1) := by decide +kernel
theorem dX12_ends_261 : decode cX12_ends 261 = .ok (.imul, 1) := by decide +kernel
theorem dX12_ends_262 : decode cX12_ends 262 = .ok (.iadd, 1) := by decide +kernel
theorem dX12_ends_263 : decode cX12_ends 263 = .ok (.iload 5, 2) := by decide +kernel
theorem dX12_ends_265 : decode cX12_ends 265 = .ok (.iadd, 1) := by decide +kernel
theorem dX12_ends_266 : decode cX12_ends 266 = .ok (.iaload, 1) := by decide +kernel
theorem dX12_ends_267 : decode cX12_ends 267 = .ok (.iconst 1, 1) := by decide +kernel
theorem dX12_ends_268 : decode cX12_ends 268 = .ok (.if_icmp .ne 40, 3) := by decide +kernel
theorem dX12_ends_271 : decode cX12_ends 271 = .ok (.aload_n 0, 1) := by decide +kernel
theorem dX12_ends_272 : decode cX12_ends 272 = .ok (.getfield 9, 3) := by decide +kernel
theorem dX12_ends_275 : decode cX12_ends 275 = .ok (.sipush 400, 3) := by decide +kernel
theorem dX12_ends_278 : decode cX12_ends 278 = .ok (.bipush 6, 2) := by decide +kernel
theorem dX12_ends_280 : decode cX12_ends 280 = .ok (.iload_n 1, 1) := by decide +kernel
theorem dX12_ends_281 : decode cX12_ends 281 = .ok (.imul, 1) := by decide +kernel
theorem dX12_ends_282 : decode cX12_ends 282 = .ok (.iadd, 1) := by decide +kernel
theorem dX12_ends_283 : decode cX12_ends 283 = .ok (.iload 5, 2) := by decide +kernel
theorem dX12_ends_285 : decode cX12_ends 285 = .ok (.iadd, 1) := by decide +kernel
theorem dX12_ends_286 : decode cX12_ends 286 = .ok (.iaload, 1) := by decide +kernel
theorem dX12_ends_287 : decode cX12_ends 287 = .ok (.iload_n 2, 1) := by decide +kernel
theorem dX12_ends_288 : decode cX12_ends 288 = .ok (.if_icmp .ne 20, 3) := by decide +kernel
theorem dX12_ends_291 : decode cX12_ends 291 = .ok (.aload_n 0, 1) := by decide +kernel
theorem dX12_ends_292 : decode cX12_ends 292 = .ok (.getfield 9, 3) := by decide +kernel
theorem dX12_ends_295 : decode cX12_ends 295 = .ok (.sipush 484, 3) := by decide +kernel
theorem dX12_ends_298 : decode cX12_ends 298 = .ok (.bipush 6, 2) := by decide +kernel
theorem dX12_ends_300 : decode cX12_ends 300 = .ok (.iload_n 1, 1) := by decide +kernel
theorem dX12_ends_301 : decode cX12_ends 301 = .ok (.imul, 1) := by decide +kernel
theorem dX12_ends_302 : decode cX12_ends 302 = .ok (.iadd, 1) := by decide +kernel
theorem dX12_ends_303 : decode cX12_ends 303 = .ok (.iload 5, 2) := by decide +kernel
theorem dX12_ends_305 : decode cX12_ends 305 = .ok (.iadd, 1) := by decide +kernel
theorem dX12_ends_306 : decode cX12_ends 306 = .ok (.iconst 1, 1) := by decide +kernel
theorem dX12_ends_307 : decode cX12_ends 307 = .ok (.iastore, 1) := by decide +kernel
theorem dX12_ends_308 : decode cX12_ends 308 = .ok (.iinc 5 1, 3) := by decide +kernel
theorem dX12_ends_311 : decode cX12_ends 311 = .ok (.goto (-77), 3) := by decide +kernel
theorem dX12_ends_314 : decode cX12_ends 314 = .ok (.aload_n 0, 1) := by decide +kernel
theorem dX12_ends_315 : decode cX12_ends 315 = .ok (.iload_n 1, 1) := by decide +kernel
theorem dX12_ends_316 : decode cX12_ends 316 = .ok (.iconst 5, 1) := by decide +kernel
theorem dX12_ends_317 : decode cX12_ends 317 = .ok (.iload_n 2, 1) := by decide +kernel
theorem dX12_ends_318 : decode cX12_ends 318 = .ok (.iconst 0, 1) := by decide +kernel
theorem dX12_ends_319 : decode cX12_ends 319 = .ok (.invokevirtual 125, 3) := by decide +kernel
theorem dX12_ends_322 : decode cX12_ends 322 = .ok (.return_, 1) := by decide +kernel
def xX12_ends_234   : Nat → Int32 → Int32 → Int32 → j_M → Option (j_M)
  | 0, _, _, _, _ => none
  | n + 1, l1, l2, l5, M => gd (nI 0) 7460 (oli (M 201 (ix (nI 0))) fun v1 => (if v1 ≤ l5 then obv (xX12_tellsAll l1 (nI 5) l2 (nI 0) M) fun M2 => some M2 else (if l5 = l1 then xX12_ends_234  n l1 l2 (l5 + (nI 1)) M else gd (((nI 358) + ((nI 6) * l1)) + l5) 7460 (oli (M 201 (ix (((nI 358) + ((nI 6) * l1)) + l5))) fun v3 => (if v3 = (nI 1) then gd (((nI 400) + ((nI 6) * l1)) + l5) 7460 (oli (M 201 (ix (((nI 400) + ((nI 6) * l1)) + l5))) fun v4 => (if v4 = l2 then gd (((nI 484) + ((nI 6) * l1)) + l5) 7460 (oml (mw M 201 (ix (((nI 484) + ((nI 6) * l1)) + l5)) (nI 1)) fun M5 => xX12_ends_234  n l1 l2 (l5 + (nI 1)) M5) else xX12_ends_234  n l1 l2 (l5 + (nI 1)) M)) else xX12_ends_234  n l1 l2 (l5 + (nI 1)) M)))))
set_option maxRecDepth 20000 in
set_option maxHeartbeats 2000000 in
theorem tX12_ends_234    : ∀ (n : Nat) (l1 : Int32) (l2 : Int32) (l5 : Int32) (M : j_M), J (ρ := j_M) yX12_ends cX12_ends 6 none 5 115 j_ev 234 [(0, .inr (17, 0, 200)), (1, .inl (l1)), (2, .inl (l2)), (5, .inl (l5))] [] M (xX12_ends_234  n l1 l2 l5 M) := by
  intro n
  induction n with
  | zero => intros; exact J_none
  | succ n ih =>
    intro l1 l2 l5 M
    rw [xX12_ends_234.eq_2]
    refine K_iload (q := 236) 3 dX12_ends_234 rfl rfl ?_
    refine K_aload_n (q := 237) 0 dX12_ends_236 rfl rfl rfl ?_
    refine K_getR (q := 240) (ci := 7) (a2 := 201) 0 dX12_ends_237 fRX12_9 rfl rfl (by decide) rfl rfl ?_
    refine K_iconst (q := 241) (v := nI 0) dX12_ends_240 rfl rfl ?_
    refine K_iald (q := 242) dX12_ends_241 rfl (fun v1 => ?_)
    refine K_icmp_ge (q := 245) (tgt := 314) dX12_ends_242 rfl ?_ rfl ?_
    · refine K_aload_n (q := 315) 0 dX12_ends_314 rfl rfl rfl ?_
      refine K_iload_n (q := 316) 1 dX12_ends_315 rfl rfl rfl ?_
      refine K_iconst (q := 317) (v := nI 5) dX12_ends_316 rfl rfl ?_
      refine K_iload_n (q := 318) 2 dX12_ends_317 rfl rfl rfl ?_
      refine K_iconst (q := 319) (v := nI 0) dX12_ends_318 rfl rfl ?_
      refine K_cvv (q := 322) [.inl (l1), .inl ((nI 5)), .inl (l2), .inl ((nI 0))] dX12_ends_319 cb_X12_tellsAll cvRX12_125 rc_7 (show (17 : Nat) ≠ 0 by decide) rfl (Nat.le_of_ble_eq_true rfl) ⟨by decide, by decide⟩ (Nat.le_of_ble_eq_true rfl) rfl (tX12_tellsAll l1 (nI 5) l2 (nI 0) M) rfl (fun M2 => ?_)
      exact J_vret dX12_ends_322
    · refine K_iload (q := 247) 3 dX12_ends_245 rfl rfl ?_
      refine K_iload_n (q := 248) 1 dX12_ends_247 rfl rfl rfl ?_
      refine K_icmp_eq (q := 251) (tgt := 308) dX12_ends_248 rfl ?_ rfl ?_
      · refine K_iinc (q := 311) (v := l5 + (nI 1)) (ll' := [(5, .inl (l5 + (nI 1))), (0, .inr (17, 0, 200)), (1, .inl (l1)), (2, .inl (l2))]) 3 dX12_ends_308 rfl rfl (by decide) rfl rfl ?_
        refine J_goto (tgt := 234) dX12_ends_311 rfl ?_
        exact J_sub [1, 2, 3, 0] (ih l1 l2 (l5 + (nI 1)) M) rfl
      · refine K_aload_n (q := 252) 0 dX12_ends_251 rfl rfl rfl ?_
        refine K_getR (q := 255) (ci := 7) (a2 := 201) 0 dX12_ends_252 fRX12_9 rfl rfl (by decide) rfl rfl ?_
        refine K_sipush (q := 258) (v := nI 358) dX12_ends_255 rfl rfl ?_
        refine K_bipush (q := 260) (v := nI 6) dX12_ends_258 rfl rfl ?_
        refine K_iload_n (q := 261) 1 dX12_ends_260 rfl rfl rfl ?_
        refine K_imul (q := 262) dX12_ends_261 rfl ?_
        refine K_iadd (q := 263) dX12_ends_262 rfl ?_
        refine K_iload (q := 265) 3 dX12_ends_263 rfl rfl ?_
        refine K_iadd (q := 266) dX12_ends_265 rfl ?_
        refine K_iald (q := 267) dX12_ends_266 rfl (fun v3 => ?_)
        refine K_iconst (q := 268) (v := nI 1) dX12_ends_267 rfl rfl ?_
        refine K_icmp_ne (q := 271) (tgt := 308) dX12_ends_268 rfl ?_ rfl ?_
        · refine K_iinc (q := 311) (v := l5 + (nI 1)) (ll' := [(5, .inl (l5 + (nI 1))), (0, .inr (17, 0, 200)), (1, .inl (l1)), (2, .inl (l2))]) 3 dX12_ends_308 rfl rfl (by decide) rfl rfl ?_
          refine J_goto (tgt := 234) dX12_ends_311 rfl ?_
          exact J_sub [1, 2, 3, 0] (ih l1 l2 (l5 + (nI 1)) M) rfl
        · refine K_aload_n (q := 272) 0 dX12_ends_271 rfl rfl rfl ?_
          refine K_getR (q := 275) (ci := 7) (a2 := 201) 0 dX12_ends_272 fRX12_9 rfl rfl (by decide) rfl rfl ?_
          refine K_sipush (q := 278) (v := nI 400) dX12_ends_275 rfl rfl ?_
          refine K_bipush (q := 280) (v := nI 6) dX12_ends_278 rfl rfl ?_
          refine K_iload_n (q := 281) 1 dX12_ends_280 rfl rfl rfl ?_
          refine K_imul (q := 282) dX12_ends_281 rfl ?_
          refine K_iadd (q := 283) dX12_ends_282 rfl ?_
          refine K_iload (q := 285) 3 dX12_ends_283 rfl rfl ?_
          refine K_iadd (q := 286) dX12_ends_285 rfl ?_
          refine K_iald (q := 287) dX12_ends_286 rfl (fun v4 => ?_)
          refine K_iload_n (q := 288) 2 dX12_ends_287 rfl rfl rfl ?_
          refine K_icmp_ne (q := 291) (tgt := 308) dX12_ends_288 rfl ?_ rfl ?_
          · refine K_iinc (q := 311) (v := l5 + (nI 1)) (ll' := [(5, .inl (l5 + (nI 1))), (0, .inr (17, 0, 200)), (1, .inl (l1)), (2, .inl (l2))]) 3 dX12_ends_308 rfl rfl (by decide) rfl rfl ?_
            refine J_goto (tgt := 234) dX12_ends_311 rfl ?_
            exact J_sub [1, 2, 3, 0] (ih l1 l2 (l5 + (nI 1)) M) rfl
          · refine K_aload_n (q := 292) 0 dX12_ends_291 rfl rfl rfl ?_
            refine K_getR (q := 295) (ci := 7) (a2 := 201) 0 dX12_ends_292 fRX12_9 rfl rfl (by decide) rfl rfl ?_
            refine K_sipush (q := 298) (v := nI 484) dX12_ends_295 rfl rfl ?_
            refine K_bipush (q := 300) (v := nI 6) dX12_ends_298 rfl rfl ?_
            refine K_iload_n (q := 301) 1 dX12_ends_300 rfl rfl rfl ?_
            refine K_imul (q := 302) dX12_ends_301 rfl ?_
            refine K_iadd (q := 303) dX12_ends_302 rfl ?_
            refine K_iload (q := 305) 3 dX12_ends_303 rfl rfl ?_
            refine K_iadd (q := 306) dX12_ends_305 rfl ?_
            refine K_iconst (q := 307) (v := nI 1) dX12_ends_306 rfl rfl ?_
            refine K_iast (q := 308) dX12_ends_307 rfl (fun M5 => ?_)
            refine K_iinc (q := 311) (v := l5 + (nI 1)) (ll' := [(5, .inl (l5 + (nI 1))), (0, .inr (17, 0, 200)), (1, .inl (l1)), (2, .inl (l2))]) 3 dX12_ends_308 rfl rfl (by decide) rfl rfl ?_
            refine J_goto (tgt := 234) dX12_ends_311 rfl ?_
            exact J_sub [1, 2, 3, 0] (ih l1 l2 (l5 + (nI 1)) M5) rfl
def xX12_ends_210   (l1 : Int32) (l2 : Int32) (l3 : Int32) (M : j_M) : Option (j_M) := (if l3 = (0 : Int32) then some M else gd (((nI 358) + ((nI 6) * l1)) + l1) 7460 (oml (mw M 201 (ix (((nI 358) + ((nI 6) * l1)) + l1)) (nI 0)) fun M1 => xX12_ends_234 fu l1 l2 (nI 0) M1))
set_option maxRecDepth 20000 in
set_option maxHeartbeats 2000000 in
theorem tX12_ends_210    (l1 : Int32) (l2 : Int32) (l3 : Int32) (M : j_M) : J (ρ := j_M) yX12_ends cX12_ends 6 none 5 115 j_ev 210 [(0, .inr (17, 0, 200)), (1, .inl (l1)), (2, .inl (l2)), (3, .inl (l3))] [] M (xX12_ends_210  l1 l2 l3 M) := by
  unfold xX12_ends_210
  refine K_iload_n (q := 211) 3 dX12_ends_210 rfl rfl rfl ?_
  refine K_if_ne (q := 214) (tgt := 215) dX12_ends_211 rfl ?_ rfl ?_
  · refine K_aload_n (q := 216) 0 dX12_ends_215 rfl rfl rfl ?_
    refine K_getR (q := 219) (ci := 7) (a2 := 201) 0 dX12_ends_216 fRX12_9 rfl rfl (by decide) rfl rfl ?_
    refine K_sipush (q := 222) (v := nI 358) dX12_ends_219 rfl rfl ?_
    refine K_bipush (q := 224) (v := nI 6) dX12_ends_222 rfl rfl ?_
    refine K_iload_n (q := 225) 1 dX12_ends_224 rfl rfl rfl ?_
    refine K_imul (q := 226) dX12_ends_225 rfl ?_
    refine K_iadd (q := 227) dX12_ends_226 rfl ?_
    refine K_iload_n (q := 228) 1 dX12_ends_227 rfl rfl rfl ?_
    refine K_iadd (q := 229) dX12_ends_228 rfl ?_
    refine K_iconst (q := 230) (v := nI 0) dX12_ends_229 rfl rfl ?_
    refine K_iast (q := 231) dX12_ends_230 rfl (fun M1 => ?_)
    refine K_iconst (q := 232) (v := nI 0) dX12_ends_231 rfl rfl ?_
    refine K_istore (q := 234) (ll' := [(5, .inl ((nI 0))), (0, .inr (17, 0, 200)), (1, .inl (l1)), (2, .inl (l2)), (3, .inl (l3))]) dX12_ends_232 (by decide) rfl rfl ?_
    exact J_sub [1, 2, 3, 0] (tX12_ends_234 fu l1 l2 (nI 0) M1) rfl
  · exact J_vret dX12_ends_214
def xX12_ends_63   (l1 : Int32) (l2 : Int32) (s0 : Int32) (M : j_M) : Option (j_M) := gd ((nI 292) + l1) 7460 (oml (mw M 201 (ix ((nI 292) + l1)) (-1 : Int32)) fun M1 => gd ((nI 298) + l1) 7460 (oml (mw M1 201 (ix ((nI 298) + l1)) (nI 0)) fun M2 => gd ((nI 304) + l1) 7460 (oml (mw M2 201 (ix ((nI 304) + l1)) (nI 0)) fun M3 => gd ((nI 310) + l1) 7460 (oml (mw M3 201 (ix ((nI 310) + l1)) (nI 0)) fun M4 => gd (nI 10) 7460 (oli (M4 201 (ix (nI 10))) fun v5 => gd (nI 10) 7460 (oml (mw M4 201 (ix (nI 10)) (v5 + (nI 1))) fun M6 => gd (nI 5) 7460 (oli (M6 201 (ix (nI 5))) fun v7 => gd ((nI 6730) + l1) 7460 (oli (M6 201 (ix ((nI 6730) + l1))) fun v8 => gd (((nI 6736) + ((nI 5) * l1)) + (nI 1)) 7460 (oli (M6 201 (ix (((nI 6736) + ((nI 5) * l1)) + (nI 1)))) fun v9 => gd (((nI 6736) + ((nI 5) * l1)) + (nI 1)) 7460 (oml (mw M6 201 (ix (((nI 6736) + ((nI 5) * l1)) + (nI 1))) (v9 + (nI 1))) fun M10 => gd (((nI 6736) + ((nI 5) * l1)) + (nI 2)) 7460 (oli (M10 201 (ix (((nI 6736) + ((nI 5) * l1)) + (nI 2)))) fun v11 => gd (((nI 6736) + ((nI 5) * l1)) + (nI 2)) 7460 (oml (mw M10 201 (ix (((nI 6736) + ((nI 5) * l1)) + (nI 2))) (v11 + (v7 - v8))) fun M12 => gd (((nI 6736) + ((nI 5) * l1)) + (nI 3)) 7460 (oli (M12 201 (ix (((nI 6736) + ((nI 5) * l1)) + (nI 3)))) fun v13 => (if (v7 - v8) ≤ v13 then xX12_ends_210  l1 l2 s0 M12 else gd (((nI 6736) + ((nI 5) * l1)) + (nI 3)) 7460 (oml (mw M12 201 (ix (((nI 6736) + ((nI 5) * l1)) + (nI 3))) (v7 - v8)) fun M14 => xX12_ends_210  l1 l2 s0 M14)))))))))))))))
set_option maxRecDepth 20000 in
set_option maxHeartbeats 2000000 in
theorem tX12_ends_63    (l1 : Int32) (l2 : Int32) (s0 : Int32) (M : j_M) : J (ρ := j_M) yX12_ends cX12_ends 6 none 5 115 j_ev 63 [(0, .inr (17, 0, 200)), (1, .inl (l1)), (2, .inl (l2))] [.inl (s0)] M (xX12_ends_63  l1 l2 s0 M) := by
  unfold xX12_ends_63
  refine K_istore_n (q := 64) (ll' := [(3, .inl (s0)), (0, .inr (17, 0, 200)), (1, .inl (l1)), (2, .inl (l2))]) dX12_ends_63 rfl (by decide) rfl rfl ?_
  refine K_aload_n (q := 65) 1 dX12_ends_64 rfl rfl rfl ?_
  refine K_getR (q := 68) (ci := 7) (a2 := 201) 0 dX12_ends_65 fRX12_9 rfl rfl (by decide) rfl rfl ?_
  refine K_sipush (q := 71) (v := nI 292) dX12_ends_68 rfl rfl ?_
  refine K_iload_n (q := 72) 2 dX12_ends_71 rfl rfl rfl ?_
  refine K_iadd (q := 73) dX12_ends_72 rfl ?_
  refine K_iconst (q := 74) (v := -1) dX12_ends_73 rfl rfl ?_
  refine K_iast (q := 75) dX12_ends_74 rfl (fun M1 => ?_)
  refine K_aload_n (q := 76) 1 dX12_ends_75 rfl rfl rfl ?_
  refine K_getR (q := 79) (ci := 7) (a2 := 201) 0 dX12_ends_76 fRX12_9 rfl rfl (by decide) rfl rfl ?_
  refine K_sipush (q := 82) (v := nI 298) dX12_ends_79 rfl rfl ?_
  refine K_iload_n (q := 83) 2 dX12_ends_82 rfl rfl rfl ?_
  refine K_iadd (q := 84) dX12_ends_83 rfl ?_
  refine K_iconst (q := 85) (v := nI 0) dX12_ends_84 rfl rfl ?_
  refine K_iast (q := 86) dX12_ends_85 rfl (fun M2 => ?_)
  refine K_aload_n (q := 87) 1 dX12_ends_86 rfl rfl rfl ?_
  refine K_getR (q := 90) (ci := 7) (a2 := 201) 0 dX12_ends_87 fRX12_9 rfl rfl (by decide) rfl rfl ?_
  refine K_sipush (q := 93) (v := nI 304) dX12_ends_90 rfl rfl ?_
  refine K_iload_n (q := 94) 2 dX12_ends_93 rfl rfl rfl ?_
  refine K_iadd (q := 95) dX12_ends_94 rfl ?_
  refine K_iconst (q := 96) (v := nI 0) dX12_ends_95 rfl rfl ?_
  refine K_iast (q := 97) dX12_ends_96 rfl (fun M3 => ?_)
  refine K_aload_n (q := 98) 1 dX12_ends_97 rfl rfl rfl ?_
  refine K_getR (q := 101) (ci := 7) (a2 := 201) 0 dX12_ends_98 fRX12_9 rfl rfl (by decide) rfl rfl ?_
  refine K_sipush (q := 104) (v := nI 310) dX12_ends_101 rfl rfl ?_
  refine K_iload_n (q := 105) 2 dX12_ends_104 rfl rfl rfl ?_
  refine K_iadd (q := 106) dX12_ends_105 rfl ?_
  refine K_iconst (q := 107) (v := nI 0) dX12_ends_106 rfl rfl ?_
  refine K_iast (q := 108) dX12_ends_107 rfl (fun M4 => ?_)
  refine K_aload_n (q := 109) 1 dX12_ends_108 rfl rfl rfl ?_
  refine K_getR (q := 112) (ci := 7) (a2 := 201) 0 dX12_ends_109 fRX12_9 rfl rfl (by decide) rfl rfl ?_
  refine K_bipush (q := 114) (v := nI 10) dX12_ends_112 rfl rfl ?_
  refine K_dup2 (q := 115) dX12_ends_114 rfl ?_
  refine K_iald (q := 116) dX12_ends_115 rfl (fun v5 => ?_)
  refine K_iconst (q := 117) (v := nI 1) dX12_ends_116 rfl rfl ?_
  refine K_iadd (q := 118) dX12_ends_117 rfl ?_
  refine K_iast (q := 119) dX12_ends_118 rfl (fun M6 => ?_)
  refine K_aload_n (q := 120) 1 dX12_ends_119 rfl rfl rfl ?_
  refine K_getR (q := 123) (ci := 7) (a2 := 201) 0 dX12_ends_120 fRX12_9 rfl rfl (by decide) rfl rfl ?_
  refine K_iconst (q := 124) (v := nI 5) dX12_ends_123 rfl rfl ?_
  refine K_iald (q := 125) dX12_ends_124 rfl (fun v7 => ?_)
  refine K_aload_n (q := 126) 1 dX12_ends_125 rfl rfl rfl ?_
  refine K_getR (q := 129) (ci := 7) (a2 := 201) 0 dX12_ends_126 fRX12_9 rfl rfl (by decide) rfl rfl ?_
  refine K_sipush (q := 132) (v := nI 6730) dX12_ends_129 rfl rfl ?_
  refine K_iload_n (q := 133) 2 dX12_ends_132 rfl rfl rfl ?_
  refine K_iadd (q := 134) dX12_ends_133 rfl ?_
  refine K_iald (q := 135) dX12_ends_134 rfl (fun v8 => ?_)
  refine K_isub (q := 136) dX12_ends_135 rfl ?_
  refine K_istore (q := 138) (ll' := [(4, .inl (v7 - v8)), (3, .inl (s0)), (0, .inr (17, 0, 200)), (1, .inl (l1)), (2, .inl (l2))]) dX12_ends_136 (by decide) rfl rfl ?_
  refine K_aload_n (q := 139) 2 dX12_ends_138 rfl rfl rfl ?_
  refine K_getR (q := 142) (ci := 7) (a2 := 201) 0 dX12_ends_139 fRX12_9 rfl rfl (by decide) rfl rfl ?_
  refine K_sipush (q := 145) (v := nI 6736) dX12_ends_142 rfl rfl ?_
  refine K_iconst (q := 146) (v := nI 5) dX12_ends_145 rfl rfl ?_
  refine K_iload_n (q := 147) 3 dX12_ends_146 rfl rfl rfl ?_
  refine K_imul (q := 148) dX12_ends_147 rfl ?_
  refine K_iadd (q := 149) dX12_ends_148 rfl ?_
  refine K_iconst (q := 150) (v := nI 1) dX12_ends_149 rfl rfl ?_
  refine K_iadd (q := 151) dX12_ends_150 rfl ?_
  refine K_dup2 (q := 152) dX12_ends_151 rfl ?_
  refine K_iald (q := 153) dX12_ends_152 rfl (fun v9 => ?_)
  refine K_iconst (q := 154) (v := nI 1) dX12_ends_153 rfl rfl ?_
  refine K_iadd (q := 155) dX12_ends_154 rfl ?_
  refine K_iast (q := 156) dX12_ends_155 rfl (fun M10 => ?_)
  refine K_aload_n (q := 157) 2 dX12_ends_156 rfl rfl rfl ?_
  refine K_getR (q := 160) (ci := 7) (a2 := 201) 0 dX12_ends_157 fRX12_9 rfl rfl (by decide) rfl rfl ?_
  refine K_sipush (q := 163) (v := nI 6736) dX12_ends_160 rfl rfl ?_
  refine K_iconst (q := 164) (v := nI 5) dX12_ends_163 rfl rfl ?_
  refine K_iload_n (q := 165) 3 dX12_ends_164 rfl rfl rfl ?_
  refine K_imul (q := 166) dX12_ends_165 rfl ?_
  refine K_iadd (q := 167) dX12_ends_166 rfl ?_
  refine K_iconst (q := 168) (v := nI 2) dX12_ends_167 rfl rfl ?_
  refine K_iadd (q := 169) dX12_ends_168 rfl ?_
  refine K_dup2 (q := 170) dX12_ends_169 rfl ?_
  refine K_iald (q := 171) dX12_ends_170 rfl (fun v11 => ?_)
  refine K_iload (q := 173) 0 dX12_ends_171 rfl rfl ?_
  refine K_iadd (q := 174) dX12_ends_173 rfl ?_
  refine K_iast (q := 175) dX12_ends_174 rfl (fun M12 => ?_)
  refine K_iload (q := 177) 0 dX12_ends_175 rfl rfl ?_
  refine K_aload_n (q := 178) 2 dX12_ends_177 rfl rfl rfl ?_
  refine K_getR (q := 181) (ci := 7) (a2 := 201) 0 dX12_ends_178 fRX12_9 rfl rfl (by decide) rfl rfl ?_
  refine K_sipush (q := 184) (v := nI 6736) dX12_ends_181 rfl rfl ?_
  refine K_iconst (q := 185) (v := nI 5) dX12_ends_184 rfl rfl ?_
  refine K_iload_n (q := 186) 3 dX12_ends_185 rfl rfl rfl ?_
  refine K_imul (q := 187) dX12_ends_186 rfl ?_
  refine K_iadd (q := 188) dX12_ends_187 rfl ?_
  refine K_iconst (q := 189) (v := nI 3) dX12_ends_188 rfl rfl ?_
  refine K_iadd (q := 190) dX12_ends_189 rfl ?_
  refine K_iald (q := 191) dX12_ends_190 rfl (fun v13 => ?_)
  refine K_icmp_le (q := 194) (tgt := 210) dX12_ends_191 rfl ?_ rfl ?_
  · exact J_sub [2, 3, 4, 1] (tX12_ends_210  l1 l2 s0 M12) rfl
  · refine K_aload_n (q := 195) 2 dX12_ends_194 rfl rfl rfl ?_
    refine K_getR (q := 198) (ci := 7) (a2 := 201) 0 dX12_ends_195 fRX12_9 rfl rfl (by decide) rfl rfl ?_
    refine K_sipush (q := 201) (v := nI 6736) dX12_ends_198 rfl rfl ?_
    refine K_iconst (q := 202) (v := nI 5) dX12_ends_201 rfl rfl ?_
    refine K_iload_n (q := 203) 3 dX12_ends_202 rfl rfl rfl ?_
    refine K_imul (q := 204) dX12_ends_203 rfl ?_
    refine K_iadd (q := 205) dX12_ends_204 rfl ?_
    refine K_iconst (q := 206) (v := nI 3) dX12_ends_205 rfl rfl ?_
    refine K_iadd (q := 207) dX12_ends_206 rfl ?_
    refine K_iload (q := 209) 0 dX12_ends_207 rfl rfl ?_
    refine K_iast (q := 210) dX12_ends_209 rfl (fun M14 => ?_)
    exact J_sub [2, 3, 4, 1] (tX12_ends_210  l1 l2 s0 M14) rfl
def xX12_ends  (l1 : Int32) (M : j_M) : Option (j_M) := gd ((nI 292) + l1) 7460 (oli (M 201 (ix ((nI 292) + l1))) fun v1 => obv (xX12_notes (nI 2) l1 v1 M) fun M2 => gd ((nI 298) + l1) 7460 (oli (M2 201 (ix ((nI 298) + l1))) fun v3 => gd ((nI 304) + l1) 7460 (oli (M2 201 (ix ((nI 304) + l1))) fun v4 => obv (xX12_does l1 v1 v3 v4 M2) fun M5 => gd ((nI 310) + l1) 7460 (oli (M5 201 (ix ((nI 310) + l1))) fun v6 => (if v6 = (nI 1) then xX12_ends_63  l1 v1 (nI 1) M5 else xX12_ends_63  l1 v1 (nI 0) M5)))))
set_option maxRecDepth 20000 in
set_option maxHeartbeats 2000000 in
theorem tX12_ends  (l1 : Int32) (M : j_M) : J (ρ := j_M) yX12_ends cX12_ends 6 none 5 115 j_ev 0 [(0, .inr (17, 0, 200)), (1, .inl (l1))] [] M (xX12_ends  l1 M) := by
  unfold xX12_ends
  refine K_aload_n (q := 1) 0 dX12_ends_0 rfl rfl rfl ?_
  refine K_getR (q := 4) (ci := 7) (a2 := 201) 0 dX12_ends_1 fRX12_9 rfl rfl (by decide) rfl rfl ?_
  refine K_sipush (q := 7) (v := nI 292) dX12_ends_4 rfl rfl ?_
  refine K_iload_n (q := 8) 1 dX12_ends_7 rfl rfl rfl ?_
  refine K_iadd (q := 9) dX12_ends_8 rfl ?_
  refine K_iald (q := 10) dX12_ends_9 rfl (fun v1 => ?_)
  refine K_istore_n (q := 11) (ll' := [(2, .inl (v1)), (0, .inr (17, 0, 200)), (1, .inl (l1))]) dX12_ends_10 rfl (by decide) rfl rfl ?_
  refine K_aload_n (q := 12) 1 dX12_ends_11 rfl rfl rfl ?_
  refine K_iconst (q := 13) (v := nI 2) dX12_ends_12 rfl rfl ?_
  refine K_iload_n (q := 14) 2 dX12_ends_13 rfl rfl rfl ?_
  refine K_iload_n (q := 15) 0 dX12_ends_14 rfl rfl rfl ?_
  refine K_cvv (q := 18) [.inl ((nI 2)), .inl (l1), .inl (v1)] dX12_ends_15 cb_X12_notes cvRX12_122 rc_7 (show (17 : Nat) ≠ 0 by decide) rfl (Nat.le_of_ble_eq_true rfl) ⟨by decide, by decide⟩ (Nat.le_of_ble_eq_true rfl) rfl (tX12_notes (nI 2) l1 v1 M) rfl (fun M2 => ?_)
  refine K_aload_n (q := 19) 1 dX12_ends_18 rfl rfl rfl ?_
  refine K_iload_n (q := 20) 2 dX12_ends_19 rfl rfl rfl ?_
  refine K_iload_n (q := 21) 0 dX12_ends_20 rfl rfl rfl ?_
  refine K_aload_n (q := 22) 1 dX12_ends_21 rfl rfl rfl ?_
  refine K_getR (q := 25) (ci := 7) (a2 := 201) 0 dX12_ends_22 fRX12_9 rfl rfl (by decide) rfl rfl ?_
  refine K_sipush (q := 28) (v := nI 298) dX12_ends_25 rfl rfl ?_
  refine K_iload_n (q := 29) 2 dX12_ends_28 rfl rfl rfl ?_
  refine K_iadd (q := 30) dX12_ends_29 rfl ?_
  refine K_iald (q := 31) dX12_ends_30 rfl (fun v3 => ?_)
  refine K_aload_n (q := 32) 1 dX12_ends_31 rfl rfl rfl ?_
  refine K_getR (q := 35) (ci := 7) (a2 := 201) 0 dX12_ends_32 fRX12_9 rfl rfl (by decide) rfl rfl ?_
  refine K_sipush (q := 38) (v := nI 304) dX12_ends_35 rfl rfl ?_
  refine K_iload_n (q := 39) 2 dX12_ends_38 rfl rfl rfl ?_
  refine K_iadd (q := 40) dX12_ends_39 rfl ?_
  refine K_iald (q := 41) dX12_ends_40 rfl (fun v4 => ?_)
  refine K_cvv (q := 44) [.inl (l1), .inl (v1), .inl (v3), .inl (v4)] dX12_ends_41 cb_X12_does cvRX12_137 rc_7 (show (17 : Nat) ≠ 0 by decide) rfl (Nat.le_of_ble_eq_true rfl) ⟨by decide, by decide⟩ (Nat.le_of_ble_eq_true rfl) rfl (tX12_does l1 v1 v3 v4 M2) rfl (fun M5 => ?_)
  refine K_aload_n (q := 45) 1 dX12_ends_44 rfl rfl rfl ?_
  refine K_getR (q := 48) (ci := 7) (a2 := 201) 0 dX12_ends_45 fRX12_9 rfl rfl (by decide) rfl rfl ?_
  refine K_sipush (q := 51) (v := nI 310) dX12_ends_48 rfl rfl ?_
  refine K_iload_n (q := 52) 2 dX12_ends_51 rfl rfl rfl ?_
  refine K_iadd (q := 53) dX12_ends_52 rfl ?_
  refine K_iald (q := 54) dX12_ends_53 rfl (fun v6 => ?_)
  refine K_iconst (q := 55) (v := nI 1) dX12_ends_54 rfl rfl ?_
  refine K_icmp_ne (q := 58) (tgt := 62) dX12_ends_55 rfl ?_ rfl ?_
  · refine K_iconst (q := 63) (v := nI 0) dX12_ends_62 rfl rfl ?_
    exact J_sub [1, 2, 0] (tX12_ends_63  l1 v1 (nI 0) M5) rfl
  · refine K_iconst (q := 59) (v := nI 1) dX12_ends_58 rfl rfl ?_
    refine J_goto (tgt := 63) dX12_ends_59 rfl ?_
    exact J_sub [1, 2, 0] (tX12_ends_63  l1 v1 (nI 1) M5) rfl
theorem dX12_evicts_0 : decode cX12_evicts 0 = .ok (.aload_n 0, 1) := by decide +kernel
theorem dX12_evicts_1 : decode cX12_evicts 1 = .ok (.iconst 4, 1) := by decide +kernel
theorem dX12_evicts_2 : decode cX12_evicts 2 = .ok (.iload_n 1, 1) := by decide +kernel
theorem dX12_evicts_3 : decode cX12_evicts 3 = .ok (.iload_n 2, 1) := by decide +kernel
theorem dX12_evicts_4 : decode cX12_evicts 4 = .ok (.invokevirtual 122, 3) := by decide +kernel
theorem dX12_evicts_7 : decode cX12_evicts 7 = .ok (.aload_n 0, 1) := by decide +kernel
theorem dX12_evicts_8 : decode cX12_evicts 8 = .ok (.iload_n 1, 1) := by decide +kernel
theorem dX12_evicts_9 : decode cX12_evicts 9 = .ok (.bipush 6, 2) := by decide +kernel
theorem dX12_evicts_11 : decode cX12_evicts 11 = .ok (.iload_n 2, 1) := by decide +kernel
theorem dX12_evicts_12 : decode cX12_evicts 12 = .ok (.invokevirtual 115, 3) := by decide +kernel
theorem dX12_evicts_15 : decode cX12_evicts 15 = .ok (.aload_n 0, 1) := by decide +kernel
theorem dX12_evicts_16 : decode cX12_evicts 16 = .ok (.getfield 9, 3) := by decide +kernel
theorem dX12_evicts_19 : decode cX12_evicts 19 = .ok (.bipush 12, 2) := by decide +kernel
theorem dX12_evicts_21 : decode cX12_evicts 21 = .ok (.dup2, 1) := by decide +kernel
theorem dX12_evicts_22 : decode cX12_evicts 22 = .ok (.iaload, 1) := by decide +kernel
theorem dX12_evicts_23 : decode cX12_evicts 23 = .ok (.iconst 1, 1) := by decide +kernel
theorem dX12_evicts_24 : decode cX12_evicts 24 = .ok (.iadd, 1) := by decide +kernel
theorem dX12_evicts_25 : decode cX12_evicts 25 = .ok (.iastore, 1) := by decide +kernel
theorem dX12_evicts_26 : decode cX12_evicts 26 = .ok (.return_, 1) := by decide +kernel
def xX12_evicts  (l1 : Int32) (l2 : Int32) (M : j_M) : Option (j_M) := obv (xX12_notes (nI 4) l1 l2 M) fun M1 => obv (xX12_givesAll l1 (nI 6) l2 M1) fun M2 => gd (nI 12) 7460 (oli (M2 201 (ix (nI 12))) fun v3 => gd (nI 12) 7460 (oml (mw M2 201 (ix (nI 12)) (v3 + (nI 1))) fun M4 => some M4))
set_option maxRecDepth 20000 in
set_option maxHeartbeats 2000000 in
theorem tX12_evicts  (l1 : Int32) (l2 : Int32) (M : j_M) : J (ρ := j_M) yX12_evicts cX12_evicts 3 none 5 119 j_ev 0 [(0, .inr (17, 0, 200)), (1, .inl (l1)), (2, .inl (l2))] [] M (xX12_evicts  l1 l2 M) := by
  unfold xX12_evicts
  refine K_aload_n (q := 1) 0 dX12_evicts_0 rfl rfl rfl ?_
  refine K_iconst (q := 2) (v := nI 4) dX12_evicts_1 rfl rfl ?_
  refine K_iload_n (q := 3) 1 dX12_evicts_2 rfl rfl rfl ?_
  refine K_iload_n (q := 4) 2 dX12_evicts_3 rfl rfl rfl ?_
  refine K_cvv (q := 7) [.inl ((nI 4)), .inl (l1), .inl (l2)] dX12_evicts_4 cb_X12_notes cvRX12_122 rc_7 (show (17 : Nat) ≠ 0 by decide) rfl (Nat.le_of_ble_eq_true rfl) ⟨by decide, by decide⟩ (Nat.le_of_ble_eq_true rfl) rfl (tX12_notes (nI 4) l1 l2 M) rfl (fun M1 => ?_)
  refine K_aload_n (q := 8) 0 dX12_evicts_7 rfl rfl rfl ?_
  refine K_iload_n (q := 9) 1 dX12_evicts_8 rfl rfl rfl ?_
  refine K_bipush (q := 11) (v := nI 6) dX12_evicts_9 rfl rfl ?_
  refine K_iload_n (q := 12) 2 dX12_evicts_11 rfl rfl rfl ?_
  refine K_cvv (q := 15) [.inl (l1), .inl ((nI 6)), .inl (l2)] dX12_evicts_12 cb_X12_givesAll cvRX12_115 rc_7 (show (17 : Nat) ≠ 0 by decide) rfl (Nat.le_of_ble_eq_true rfl) ⟨by decide, by decide⟩ (Nat.le_of_ble_eq_true rfl) rfl (tX12_givesAll l1 (nI 6) l2 M1) rfl (fun M2 => ?_)
  refine K_aload_n (q := 16) 0 dX12_evicts_15 rfl rfl rfl ?_
  refine K_getR (q := 19) (ci := 7) (a2 := 201) 0 dX12_evicts_16 fRX12_9 rfl rfl (by decide) rfl rfl ?_
  refine K_bipush (q := 21) (v := nI 12) dX12_evicts_19 rfl rfl ?_
  refine K_dup2 (q := 22) dX12_evicts_21 rfl ?_
  refine K_iald (q := 23) dX12_evicts_22 rfl (fun v3 => ?_)
  refine K_iconst (q := 24) (v := nI 1) dX12_evicts_23 rfl rfl ?_
  refine K_iadd (q := 25) dX12_evicts_24 rfl ?_
  refine K_iast (q := 26) dX12_evicts_25 rfl (fun M4 => ?_)
  exact J_vret dX12_evicts_26
theorem dX12_settles_0 : decode cX12_settles 0 = .ok (.aload_n 0, 1) := by decide +kernel
theorem dX12_settles_1 : decode cX12_settles 1 = .ok (.iload_n 1, 1) := by decide +kernel
theorem dX12_settles_2 : decode cX12_settles 2 = .ok (.iload_n 2, 1) := by decide +kernel
theorem dX12_settles_3 : decode cX12_settles 3 = .ok (.invokevirtual 112, 3) := by decide +kernel
theorem dX12_settles_6 : decode cX12_settles 6 = .ok (.istore_n 3, 1) := by decide +kernel
theorem dX12_settles_7 : decode cX12_settles 7 = .ok (.iload_n 1, 1) := by decide +kernel
theorem dX12_settles_8 : decode cX12_settles 8 = .ok (.iload_n 2, 1) := by decide +kernel
theorem dX12_settles_9 : decode cX12_settles 9 = .ok (.invokestatic 61, 3) := by decide +kernel
theorem dX12_settles_12 : decode cX12_settles 12 = .ok (.istore 4, 2) := by decide +kernel
theorem dX12_settles_14 : decode cX12_settles 14 = .ok (.iload_n 3, 1) := by decide +kernel
theorem dX12_settles_15 : decode cX12_settles 15 = .ok (.iconst (-1), 1) := by decide +kernel
theorem dX12_settles_16 : decode cX12_settles 16 = .ok (.if_icmp .eq 21, 3) := by decide +kernel
theorem dX12_settles_19 : decode cX12_settles 19 = .ok (.iload_n 3, 1) := by decide +kernel
theorem dX12_settles_20 : decode cX12_settles 20 = .ok (.iload_n 1, 1) := by decide +kernel
theorem dX12_settles_21 : decode cX12_settles 21 = .ok (.if_icmp .eq 16, 3) := by decide +kernel
theorem dX12_settles_24 : decode cX12_settles 24 = .ok (.aload_n 0, 1) := by decide +kernel
theorem dX12_settles_25 : decode cX12_settles 25 = .ok (.getfield 9, 3) := by decide +kernel
theorem dX12_settles_28 : decode cX12_settles 28 = .ok (.bipush 14, 2) := by decide +kernel
theorem dX12_settles_30 : decode cX12_settles 30 = .ok (.iload 4, 2) := by decide +kernel
theorem dX12_settles_32 : decode cX12_settles 32 = .ok (.iadd, 1) := by decide +kernel
theorem dX12_settles_33 : decode cX12_settles 33 = .ok (.iaload, 1) := by decide +kernel
theorem dX12_settles_34 : decode cX12_settles 34 = .ok (.ifCond .ne 4, 3) := by decide +kernel
theorem dX12_settles_37 : decode cX12_settles 37 = .ok (.return_, 1) := by decide +kernel
theorem dX12_settles_38 : decode cX12_settles 38 = .ok (.aload_n 0, 1) := by decide +kernel
theorem dX12_settles_39 : decode cX12_settles 39 = .ok (.getfield 9, 3) := by decide +kernel
theorem dX12_settles_42 : decode cX12_settles 42 = .ok (.bipush 70, 2) := by decide +kernel
theorem dX12_settles_44 : decode cX12_settles 44 = .ok (.iload 4, 2) := by decide +kernel
theorem dX12_settles_46 : decode cX12_settles 46 = .ok (.iadd, 1) := by decide +kernel
theorem dX12_settles_47 : decode cX12_settles 47 = .ok (.iaload, 1) := by decide +kernel
theorem dX12_settles_48 : decode cX12_settles 48 = .ok (.iconst 1, 1) := by decide +kernel
theorem dX12_settles_49 : decode cX12_settles 49 = .ok (.if_icmp .ne 7, 3) := by decide +kernel
theorem dX12_settles_52 : decode cX12_settles 52 = .ok (.iconst 1, 1) := by decide +kernel
theorem dX12_settles_53 : decode cX12_settles 53 = .ok (.goto 4, 3) := by decide +kernel
theorem dX12_settles_56 : decode cX12_settles 56 = .ok (.iconst 0, 1) := by decide +kernel
theorem dX12_settles_57 : decode cX12_settles 57 = .ok (.istore 5, 2) := by decide +kernel
theorem dX12_settles_59 : decode cX12_settles 59 = .ok (.aload_n 0, 1) := by decide +kernel
theorem dX12_settles_60 : decode cX12_settles 60 = .ok (.getfield 9, 3) := by decide +kernel
theorem dX12_settles_63 : decode cX12_settles 63 = .ok (.sipush 442, 3) := by decide +kernel
theorem dX12_settles_66 : decode cX12_settles 66 = .ok (.bipush 6, 2) := by decide +kernel
theorem dX12_settles_68 : decode cX12_settles 68 = .ok (.iload_n 1, 1) := by decide +kernel
theorem dX12_settles_69 : decode cX12_settles 69 = .ok (.imul, 1) := by decide +kernel
theorem dX12_settles_70 : decode cX12_settles 70 = .ok (.iadd, 1) := by decide +kernel
theorem dX12_settles_71 : decode cX12_settles 71 = .ok (.iload_n 3, 1) := by decide +kernel
theorem dX12_settles_72 : decode cX12_settles 72 = .ok (.iadd, 1) := by decide +kernel
theorem dX12_settles_73 : decode cX12_settles 73 = .ok (.iaload, 1) := by decide +kernel
theorem dX12_settles_74 : decode cX12_settles 74 = .ok (.iconst 2, 1) := by decide +kernel
theorem dX12_settles_75 : decode cX12_settles 75 = .ok (.if_icmp .ne 13, 3) := by decide +kernel
theorem dX12_settles_78 : decode cX12_settles 78 = .ok (.aload_n 0, 1) := by decide +kernel
theorem dX12_settles_79 : decode cX12_settles 79 = .ok (.iload_n 1, 1) := by decide +kernel
theorem dX12_settles_80 : decode cX12_settles 80 = .ok (.iload_n 3, 1) := by decide +kernel
theorem dX12_settles_81 : decode cX12_settles 81 = .ok (.iload_n 2, 1) := by decide +kernel
theorem dX12_settles_82 : decode cX12_settles 82 = .ok (.invokevirtual 115, 3) := by decide +kernel
theorem dX12_settles_85 : decode cX12_settles 85 = .ok (.goto 55, 3) := by decide +kernel
theorem dX12_settles_88 : decode cX12_settles 88 = .ok (.aload_n 0, 1) := by decide +kernel
theorem dX12_settles_89 : decode cX12_settles 89 = .ok (.getfield 9, 3) := by decide +kernel
theorem dX12_settles_92 : decode cX12_settles 92 = .ok (.bipush 14, 2) := by decide +kernel
theorem dX12_settles_94 : decode cX12_settles 94 = .ok (.iload 4, 2) := by decide +kernel
theorem dX12_settles_96 : decode cX12_settles 96 = .ok (.iadd, 1) := by decide +kernel
theorem dX12_settles_97 : decode cX12_settles 97 = .ok (.iaload, 1) := by decide +kernel
theorem dX12_settles_98 : decode cX12_settles 98 = .ok (.iconst 1, 1) := by decide +kernel
theorem dX12_settles_99 : decode cX12_settles 99 = .ok (.if_icmp .le 29, 3) := by decide +kernel
theorem dX12_settles_102 : decode cX12_settles 102 = .ok (.aload_n 0, 1) := by decide +kernel
theorem dX12_settles_103 : decode cX12_settles 103 = .ok (.iload_n 1, 1) := by decide +kernel
theorem dX12_settles_104 : decode cX12_settles 104 = .ok (.iload_n 3, 1) := by decide +kernel
theorem dX12_settles_105 : decode cX12_settles 105 = .ok (.iload_n 2, 1) := by decide +kernel
theorem dX12_settles_106 : decode cX12_settles 106 = .ok (.aload_n 0, 1) := by decide +kernel
theorem dX12_settles_107 : decode cX12_settles 107 = .ok (.getfield 9, 3) := by decide +kernel
theorem dX12_settles_110 : decode cX12_settles 110 = .ok (.bipush 14, 2) := by decide +kernel
theorem dX12_settles_112 : decode cX12_settles 112 = .ok (.iload 4, 2) := by decide +kernel
theorem dX12_settles_114 : decode cX12_settles 114 = .ok (.iadd, 1) := by decide +kernel
theorem dX12_settles_115 : decode cX12_settles 115 = .ok (.iaload, 1) := by decide +kernel
theorem dX12_settles_116 : decode cX12_settles 116 = .ok (.iconst 1, 1) := by decide +kernel
theorem dX12_settles_117 : decode cX12_settles 117 = .ok (.isub, 1) := by decide +kernel
theorem dX12_settles_118 : decode cX12_settles 118 = .ok (.iload 5, 2) := by decide +kernel
theorem dX12_settles_120 : decode cX12_settles 120 = .ok (.iload 5, 2) := by decide +kernel
theorem dX12_settles_122 : decode cX12_settles 122 = .ok (.invokevirtual 108, 3) := by decide +kernel
theorem dX12_settles_125 : decode cX12_settles 125 = .ok (.goto 15, 3) := by decide +kernel
theorem dX12_settles_128 : decode cX12_settles 128 = .ok (.iload 5, 2) := by decide +kernel
theorem dX12_settles_130 : decode cX12_settles 130 = .ok (.ifCond .eq 10, 3) := by decide +kernel
theorem dX12_settles_133 : decode cX12_settles 133 = .ok (.aload_n 0, 1) := by decide +kernel
theorem dX12_settles_134 : decode cX12_settles 134 = .ok (.iload_n 1, 1) := by decide +kernel
theorem dX12_settles_135 : decode cX12_settles 135 = .ok (.iload_n 3, 1) := by decide +kernel
theorem dX12_settles_136 : decode cX12_settles 136 = .ok (.iload_n 2, 1) := by decide +kernel
theorem dX12_settles_137 : decode cX12_settles 137 = .ok (.invokevirtual 115, 3) := by decide +kernel
theorem dX12_settles_140 : decode cX12_settles 140 = .ok (.return_, 1) := by decide +kernel
def xX12_settles_57   (l1 : Int32) (l2 : Int32) (l3 : Int32) (l4 : Int32) (s0 : Int32) (M : j_M) : Option (j_M) := gd (((nI 442) + ((nI 6) * l1)) + l3) 7460 (oli (M 201 (ix (((nI 442) + ((nI 6) * l1)) + l3))) fun v1 => (if v1 = (nI 2) then obv (xX12_givesAll l1 l3 l2 M) fun M6 => some M6 else gd ((nI 14) + l4) 7460 (oli (M 201 (ix ((nI 14) + l4))) fun v2 => (if v2 ≤ (nI 1) then (if s0 = (0 : Int32) then some M else obv (xX12_givesAll l1 l3 l2 M) fun M3 => some M3) else gd ((nI 14) + l4) 7460 (oli (M 201 (ix ((nI 14) + l4))) fun v4 => obv (xX12_gives l1 l3 l2 (v4 - (nI 1)) s0 s0 M) fun M5 => some M5)))))
set_option maxRecDepth 20000 in
set_option maxHeartbeats 2000000 in
theorem tX12_settles_57    (l1 : Int32) (l2 : Int32) (l3 : Int32) (l4 : Int32) (s0 : Int32) (M : j_M) : J (ρ := j_M) yX12_settles cX12_settles 6 none 5 119 j_ev 57 [(0, .inr (17, 0, 200)), (1, .inl (l1)), (2, .inl (l2)), (3, .inl (l3)), (4, .inl (l4))] [.inl (s0)] M (xX12_settles_57  l1 l2 l3 l4 s0 M) := by
  unfold xX12_settles_57
  refine K_istore (q := 59) (ll' := [(5, .inl (s0)), (0, .inr (17, 0, 200)), (1, .inl (l1)), (2, .inl (l2)), (3, .inl (l3)), (4, .inl (l4))]) dX12_settles_57 (by decide) rfl rfl ?_
  refine K_aload_n (q := 60) 1 dX12_settles_59 rfl rfl rfl ?_
  refine K_getR (q := 63) (ci := 7) (a2 := 201) 0 dX12_settles_60 fRX12_9 rfl rfl (by decide) rfl rfl ?_
  refine K_sipush (q := 66) (v := nI 442) dX12_settles_63 rfl rfl ?_
  refine K_bipush (q := 68) (v := nI 6) dX12_settles_66 rfl rfl ?_
  refine K_iload_n (q := 69) 2 dX12_settles_68 rfl rfl rfl ?_
  refine K_imul (q := 70) dX12_settles_69 rfl ?_
  refine K_iadd (q := 71) dX12_settles_70 rfl ?_
  refine K_iload_n (q := 72) 4 dX12_settles_71 rfl rfl rfl ?_
  refine K_iadd (q := 73) dX12_settles_72 rfl ?_
  refine K_iald (q := 74) dX12_settles_73 rfl (fun v1 => ?_)
  refine K_iconst (q := 75) (v := nI 2) dX12_settles_74 rfl rfl ?_
  refine K_icmp_ne (q := 78) (tgt := 88) dX12_settles_75 rfl ?_ rfl ?_
  · refine K_aload_n (q := 89) 1 dX12_settles_88 rfl rfl rfl ?_
    refine K_getR (q := 92) (ci := 7) (a2 := 201) 0 dX12_settles_89 fRX12_9 rfl rfl (by decide) rfl rfl ?_
    refine K_bipush (q := 94) (v := nI 14) dX12_settles_92 rfl rfl ?_
    refine K_iload (q := 96) 5 dX12_settles_94 rfl rfl ?_
    refine K_iadd (q := 97) dX12_settles_96 rfl ?_
    refine K_iald (q := 98) dX12_settles_97 rfl (fun v2 => ?_)
    refine K_iconst (q := 99) (v := nI 1) dX12_settles_98 rfl rfl ?_
    refine K_icmp_le (q := 102) (tgt := 128) dX12_settles_99 rfl ?_ rfl ?_
    · refine K_iload (q := 130) 0 dX12_settles_128 rfl rfl ?_
      refine K_if_eq (q := 133) (tgt := 140) dX12_settles_130 rfl ?_ rfl ?_
      · exact J_vret dX12_settles_140
      · refine K_aload_n (q := 134) 1 dX12_settles_133 rfl rfl rfl ?_
        refine K_iload_n (q := 135) 2 dX12_settles_134 rfl rfl rfl ?_
        refine K_iload_n (q := 136) 4 dX12_settles_135 rfl rfl rfl ?_
        refine K_iload_n (q := 137) 3 dX12_settles_136 rfl rfl rfl ?_
        refine K_cvv (q := 140) [.inl (l1), .inl (l3), .inl (l2)] dX12_settles_137 cb_X12_givesAll cvRX12_115 rc_7 (show (17 : Nat) ≠ 0 by decide) rfl (Nat.le_of_ble_eq_true rfl) ⟨by decide, by decide⟩ (Nat.le_of_ble_eq_true rfl) rfl (tX12_givesAll l1 l3 l2 M) rfl (fun M3 => ?_)
        exact J_vret dX12_settles_140
    · refine K_aload_n (q := 103) 1 dX12_settles_102 rfl rfl rfl ?_
      refine K_iload_n (q := 104) 2 dX12_settles_103 rfl rfl rfl ?_
      refine K_iload_n (q := 105) 4 dX12_settles_104 rfl rfl rfl ?_
      refine K_iload_n (q := 106) 3 dX12_settles_105 rfl rfl rfl ?_
      refine K_aload_n (q := 107) 1 dX12_settles_106 rfl rfl rfl ?_
      refine K_getR (q := 110) (ci := 7) (a2 := 201) 0 dX12_settles_107 fRX12_9 rfl rfl (by decide) rfl rfl ?_
      refine K_bipush (q := 112) (v := nI 14) dX12_settles_110 rfl rfl ?_
      refine K_iload (q := 114) 5 dX12_settles_112 rfl rfl ?_
      refine K_iadd (q := 115) dX12_settles_114 rfl ?_
      refine K_iald (q := 116) dX12_settles_115 rfl (fun v4 => ?_)
      refine K_iconst (q := 117) (v := nI 1) dX12_settles_116 rfl rfl ?_
      refine K_isub (q := 118) dX12_settles_117 rfl ?_
      refine K_iload (q := 120) 0 dX12_settles_118 rfl rfl ?_
      refine K_iload (q := 122) 0 dX12_settles_120 rfl rfl ?_
      refine K_cvv (q := 125) [.inl (l1), .inl (l3), .inl (l2), .inl (v4 - (nI 1)), .inl (s0), .inl (s0)] dX12_settles_122 cb_X12_gives cvRX12_108 rc_7 (show (17 : Nat) ≠ 0 by decide) rfl (Nat.le_of_ble_eq_true rfl) ⟨by decide, by decide⟩ (Nat.le_of_ble_eq_true rfl) rfl (tX12_gives l1 l3 l2 (v4 - (nI 1)) s0 s0 M) rfl (fun M5 => ?_)
      refine J_goto (tgt := 140) dX12_settles_125 rfl ?_
      exact J_vret dX12_settles_140
  · refine K_aload_n (q := 79) 1 dX12_settles_78 rfl rfl rfl ?_
    refine K_iload_n (q := 80) 2 dX12_settles_79 rfl rfl rfl ?_
    refine K_iload_n (q := 81) 4 dX12_settles_80 rfl rfl rfl ?_
    refine K_iload_n (q := 82) 3 dX12_settles_81 rfl rfl rfl ?_
    refine K_cvv (q := 85) [.inl (l1), .inl (l3), .inl (l2)] dX12_settles_82 cb_X12_givesAll cvRX12_115 rc_7 (show (17 : Nat) ≠ 0 by decide) rfl (Nat.le_of_ble_eq_true rfl) ⟨by decide, by decide⟩ (Nat.le_of_ble_eq_true rfl) rfl (tX12_givesAll l1 l3 l2 M) rfl (fun M6 => ?_)
    refine J_goto (tgt := 140) dX12_settles_85 rfl ?_
    exact J_vret dX12_settles_140
def xX12_settles  (l1 : Int32) (l2 : Int32) (M : j_M) : Option (j_M) := obi (xX12_turn l1 l2 M) fun v2 M1 => obi (xX12_place l1 l2 M1) fun v4 M3 => (if v2 = (-1 : Int32) then some M3 else (if v2 = l1 then some M3 else gd ((nI 14) + v4) 7460 (oli (M3 201 (ix ((nI 14) + v4))) fun v5 => (if v5 = (0 : Int32) then some M3 else gd ((nI 70) + v4) 7460 (oli (M3 201 (ix ((nI 70) + v4))) fun v6 => (if v6 = (nI 1) then xX12_settles_57  l1 l2 v2 v4 (nI 1) M3 else xX12_settles_57  l1 l2 v2 v4 (nI 0) M3))))))
set_option maxRecDepth 20000 in
set_option maxHeartbeats 2000000 in
theorem tX12_settles  (l1 : Int32) (l2 : Int32) (M : j_M) : J (ρ := j_M) yX12_settles cX12_settles 6 none 5 119 j_ev 0 [(0, .inr (17, 0, 200)), (1, .inl (l1)), (2, .inl (l2))] [] M (xX12_settles  l1 l2 M) := by
  unfold xX12_settles
  refine K_aload_n (q := 1) 0 dX12_settles_0 rfl rfl rfl ?_
  refine K_iload_n (q := 2) 1 dX12_settles_1 rfl rfl rfl ?_
  refine K_iload_n (q := 3) 2 dX12_settles_2 rfl rfl rfl ?_
  refine K_cvi (q := 6) [.inl (l1), .inl (l2)] dX12_settles_3 cb_X12_turn cvRX12_112 rc_7 (show (17 : Nat) ≠ 0 by decide) rfl (Nat.le_of_ble_eq_true rfl) ⟨by decide, by decide⟩ (Nat.le_of_ble_eq_true rfl) rfl (tX12_turn l1 l2 M) rfl (fun v2 M1 => ?_)
  refine K_istore_n (q := 7) (ll' := [(3, .inl (v2)), (0, .inr (17, 0, 200)), (1, .inl (l1)), (2, .inl (l2))]) dX12_settles_6 rfl (by decide) rfl rfl ?_
  refine K_iload_n (q := 8) 2 dX12_settles_7 rfl rfl rfl ?_
  refine K_iload_n (q := 9) 3 dX12_settles_8 rfl rfl rfl ?_
  refine K_csi (q := 12) [.inl (l1), .inl (l2)] dX12_settles_9 cb_X12_place cvRX12_61 rfl (Nat.le_of_ble_eq_true rfl) ⟨by decide, by decide⟩ (Nat.le_of_ble_eq_true rfl) rfl (tX12_place l1 l2 M1) rfl (fun v4 M3 => ?_)
  refine K_istore (q := 14) (ll' := [(4, .inl (v4)), (3, .inl (v2)), (0, .inr (17, 0, 200)), (1, .inl (l1)), (2, .inl (l2))]) dX12_settles_12 (by decide) rfl rfl ?_
  refine K_iload_n (q := 15) 1 dX12_settles_14 rfl rfl rfl ?_
  refine K_iconst (q := 16) (v := -1) dX12_settles_15 rfl rfl ?_
  refine K_icmp_eq (q := 19) (tgt := 37) dX12_settles_16 rfl ?_ rfl ?_
  · exact J_vret dX12_settles_37
  · refine K_iload_n (q := 20) 1 dX12_settles_19 rfl rfl rfl ?_
    refine K_iload_n (q := 21) 3 dX12_settles_20 rfl rfl rfl ?_
    refine K_icmp_eq (q := 24) (tgt := 37) dX12_settles_21 rfl ?_ rfl ?_
    · exact J_vret dX12_settles_37
    · refine K_aload_n (q := 25) 2 dX12_settles_24 rfl rfl rfl ?_
      refine K_getR (q := 28) (ci := 7) (a2 := 201) 0 dX12_settles_25 fRX12_9 rfl rfl (by decide) rfl rfl ?_
      refine K_bipush (q := 30) (v := nI 14) dX12_settles_28 rfl rfl ?_
      refine K_iload (q := 32) 0 dX12_settles_30 rfl rfl ?_
      refine K_iadd (q := 33) dX12_settles_32 rfl ?_
      refine K_iald (q := 34) dX12_settles_33 rfl (fun v5 => ?_)
      refine K_if_ne (q := 37) (tgt := 38) dX12_settles_34 rfl ?_ rfl ?_
      · refine K_aload_n (q := 39) 2 dX12_settles_38 rfl rfl rfl ?_
        refine K_getR (q := 42) (ci := 7) (a2 := 201) 0 dX12_settles_39 fRX12_9 rfl rfl (by decide) rfl rfl ?_
        refine K_bipush (q := 44) (v := nI 70) dX12_settles_42 rfl rfl ?_
        refine K_iload (q := 46) 0 dX12_settles_44 rfl rfl ?_
        refine K_iadd (q := 47) dX12_settles_46 rfl ?_
        refine K_iald (q := 48) dX12_settles_47 rfl (fun v6 => ?_)
        refine K_iconst (q := 49) (v := nI 1) dX12_settles_48 rfl rfl ?_
        refine K_icmp_ne (q := 52) (tgt := 56) dX12_settles_49 rfl ?_ rfl ?_
        · refine K_iconst (q := 57) (v := nI 0) dX12_settles_56 rfl rfl ?_
          exact J_sub [2, 3, 4, 1, 0] (tX12_settles_57  l1 l2 v2 v4 (nI 0) M3) rfl
        · refine K_iconst (q := 53) (v := nI 1) dX12_settles_52 rfl rfl ?_
          refine J_goto (tgt := 57) dX12_settles_53 rfl ?_
          exact J_sub [2, 3, 4, 1, 0] (tX12_settles_57  l1 l2 v2 v4 (nI 1) M3) rfl
      · exact J_vret dX12_settles_37
theorem dX12_asksForGood_0 : decode cX12_asksForGood 0 = .ok (.bipush 6, 2) := by decide +kernel
theorem dX12_asksForGood_2 : decode cX12_asksForGood 2 = .ok (.iload_n 1, 1) := by decide +kernel
theorem dX12_asksForGood_3 : decode cX12_asksForGood 3 = .ok (.imul, 1) := by decide +kernel
theorem dX12_asksForGood_4 : decode cX12_asksForGood 4 = .ok (.iload_n 1, 1) := by decide +kernel
theorem dX12_asksForGood_5 : decode cX12_asksForGood 5 = .ok (.iadd, 1) := by decide +kernel
theorem dX12_asksForGood_6 : decode cX12_asksForGood 6 = .ok (.istore_n 2, 1) := by decide +kernel
theorem dX12_asksForGood_7 : decode cX12_asksForGood 7 = .ok (.aload_n 0, 1) := by decide +kernel
theorem dX12_asksForGood_8 : decode cX12_asksForGood 8 = .ok (.getfield 9, 3) := by decide +kernel
theorem dX12_asksForGood_11 : decode cX12_asksForGood 11 = .ok (.sipush 292, 3) := by decide +kernel
theorem dX12_asksForGood_14 : decode cX12_asksForGood 14 = .ok (.iload_n 1, 1) := by decide +kernel
theorem dX12_asksForGood_15 : decode cX12_asksForGood 15 = .ok (.iadd, 1) := by decide +kernel
theorem dX12_asksForGood_16 : decode cX12_asksForGood 16 = .ok (.iaload, 1) := by decide +kernel
theorem dX12_asksForGood_17 : decode cX12_asksForGood 17 = .ok (.istore_n 3, 1) := by decide +kernel
theorem dX12_asksForGood_18 : decode cX12_asksForGood 18 = .ok (.aload_n 0, 1) := by decide +kernel
theorem dX12_asksForGood_19 : decode cX12_asksForGood 19 = .ok (.getfield 9, 3) := by decide +kernel
theorem dX12_asksForGood_22 : decode cX12_asksForGood 22 = .ok (.sipush 316, 3) := by decide +kernel
theorem dX12_asksForGood_25 : decode cX12_asksForGood 25 = .ok (.iload_n 2, 1) := by decide +kernel
theorem dX12_asksForGood_26 : decode cX12_asksForGood 26 = .ok (.iadd, 1) := by decide +kernel
theorem dX12_asksForGood_27 : decode cX12_asksForGood 27 = .ok (.dup2, 1) := by decide +kernel
theorem dX12_asksForGood_28 : decode cX12_asksForGood 28 = .ok (.iaload, 1) := by decide +kernel
theorem dX12_asksForGood_29 : decode cX12_asksForGood 29 = .ok (.iconst 1, 1) := by decide +kernel
theorem dX12_asksForGood_30 : decode cX12_asksForGood 30 = .ok (.iadd, 1) := by decide +kernel
theorem dX12_asksForGood_31 : decode cX12_asksForGood 31 = .ok (.iastore, 1) := by decide +kernel
theorem dX12_asksForGood_32 : decode cX12_asksForGood 32 = .ok (.aload_n 0, 1) := by decide +kernel
theorem dX12_asksForGood_33 : decode cX12_asksForGood 33 = .ok (.getfield 9, 3) := by decide +kernel
theorem dX12_asksForGood_36 : decode cX12_asksForGood 36 = .ok (.sipush 358, 3) := by decide +kernel
theorem dX12_asksForGood_39 : decode cX12_asksForGood 39 = .ok (.iload_n 2, 1) := by decide +kernel
theorem dX12_asksForGood_40 : decode cX12_asksForGood 40 = .ok (.iadd, 1) := by decide +kernel
theorem dX12_asksForGood_41 : decode cX12_asksForGood 41 = .ok (.iconst 1, 1) := by decide +kernel
theorem dX12_asksForGood_42 : decode cX12_asksForGood 42 = .ok (.iastore, 1) := by decide +kernel
theorem dX12_asksForGood_43 : decode cX12_asksForGood 43 = .ok (.aload_n 0, 1) := by decide +kernel
theorem dX12_asksForGood_44 : decode cX12_asksForGood 44 = .ok (.getfield 9, 3) := by decide +kernel
theorem dX12_asksForGood_47 : decode cX12_asksForGood 47 = .ok (.sipush 400, 3) := by decide +kernel
theorem dX12_asksForGood_50 : decode cX12_asksForGood 50 = .ok (.iload_n 2, 1) := by decide +kernel
theorem dX12_asksForGood_51 : decode cX12_asksForGood 51 = .ok (.iadd, 1) := by decide +kernel
theorem dX12_asksForGood_52 : decode cX12_asksForGood 52 = .ok (.iload_n 3, 1) := by decide +kernel
theorem dX12_asksForGood_53 : decode cX12_asksForGood 53 = .ok (.iastore, 1) := by decide +kernel
theorem dX12_asksForGood_54 : decode cX12_asksForGood 54 = .ok (.aload_n 0, 1) := by decide +kernel
theorem dX12_asksForGood_55 : decode cX12_asksForGood 55 = .ok (.getfield 9, 3) := by decide +kernel
theorem dX12_asksForGood_58 : decode cX12_asksForGood 58 = .ok (.sipush 442, 3) := by decide +kernel
theorem dX12_asksForGood_61 : decode cX12_asksForGood 61 = .ok (.iload_n 2, 1) := by decide +kernel
theorem dX12_asksForGood_62 : decode cX12_asksForGood 62 = .ok (.iadd, 1) := by decide +kernel
theorem dX12_asksForGood_63 : decode cX12_asksForGood 63 = .ok (.aload_n 0, 1) := by decide +kernel
theorem dX12_asksForGood_64 : decode cX12_asksForGood 64 = .ok (.getfield 9, 3) := by decide +kernel
theorem dX12_asksForGood_67 : decode cX12_asksForGood 67 = .ok (.sipush 298, 3) := by decide +kernel
theorem dX12_asksForGood_70 : decode cX12_asksForGood 70 = .ok (.iload_n 1, 1) := by decide +kernel
theorem dX12_asksForGood_71 : decode cX12_asksForGood 71 = .ok (.iadd, 1) := by decide +kernel
theorem dX12_asksForGood_72 : decode cX12_asksForGood 72 = .ok (.iaload, 1) := by decide +kernel
theorem dX12_asksForGood_73 : decode cX12_asksForGood 73 = .ok (.iconst 1, 1) := by decide +kernel
theorem dX12_asksForGood_74 : decode cX12_asksForGood 74 = .ok (.if_icmp .ne 7, 3) := by decide +kernel
theorem dX12_asksForGood_77 : decode cX12_asksForGood 77 = .ok (.iconst 1, 1) := by decide +kernel
theorem dX12_asksForGood_78 : decode cX12_asksForGood 78 = .ok (.goto 4, 3) := by decide +kernel
theorem dX12_asksForGood_81 : decode cX12_asksForGood 81 = .ok (.iconst 2, 1) := by decide +kernel
theorem dX12_asksForGood_82 : decode cX12_asksForGood 82 = .ok (.iastore, 1) := by decide +kernel
theorem dX12_asksForGood_83 : decode cX12_asksForGood 83 = .ok (.aload_n 0, 1) := by decide +kernel
theorem dX12_asksForGood_84 : decode cX12_asksForGood 84 = .ok (.getfield 9, 3) := by decide +kernel
theorem dX12_asksForGood_87 : decode cX12_asksForGood 87 = .ok (.sipush 484, 3) := by decide +kernel
theorem dX12_asksForGood_90 : decode cX12_asksForGood 90 = .ok (.iload_n 2, 1) := by decide +kernel
theorem dX12_asksForGood_91 : decode cX12_asksForGood 91 = .ok (.iadd, 1) := by decide +kernel
theorem dX12_asksForGood_92 : decode cX12_asksForGood 92 = .ok (.iconst 0, 1) := by decide +kernel
theorem dX12_asksForGood_93 : decode cX12_asksForGood 93 = .ok (.iastore, 1) := by decide +kernel
theorem dX12_asksForGood_94 : decode cX12_asksForGood 94 = .ok (.aload_n 0, 1) := by decide +kernel
theorem dX12_asksForGood_95 : decode cX12_asksForGood 95 = .ok (.iconst 3, 1) := by decide +kernel
theorem dX12_asksForGood_96 : decode cX12_asksForGood 96 = .ok (.iload_n 1, 1) := by decide +kernel
theorem dX12_asksForGood_97 : decode cX12_asksForGood 97 = .ok (.iload_n 3, 1) := by decide +kernel
theorem dX12_asksForGood_98 : decode cX12_asksForGood 98 = .ok (.invokevirtual 122, 3) := by decide +kernel
theorem dX12_asksForGood_101 : decode cX12_asksForGood 101 = .ok (.aload_n 0, 1) := by decide +kernel
theorem dX12_asksForGood_102 : decode cX12_asksForGood 102 = .ok (.iload_n 1, 1) := by decide +kernel
theorem dX12_asksForGood_103 : decode cX12_asksForGood 103 = .ok (.iconst 4, 1) := by decide +kernel
theorem dX12_asksForGood_104 : decode cX12_asksForGood 104 = .ok (.iload_n 3, 1) := by decide +kernel
theorem dX12_asksForGood_105 : decode cX12_asksForGood 105 = .ok (.aload_n 0, 1) := by decide +kernel
theorem dX12_asksForGood_106 : decode cX12_asksForGood 106 = .ok (.getfield 9, 3) := by decide +kernel
theorem dX12_asksForGood_109 : decode cX12_asksForGood 109 = .ok (.sipush 442, 3) := by decide +kernel
theorem dX12_asksForGood_112 : decode cX12_asksForGood 112 = .ok (.iload_n 2, 1) := by decide +kernel
theorem dX12_asksForGood_113 : decode cX12_asksForGood 113 = .ok (.iadd, 1) := by decide +kernel
theorem dX12_asksForGood_114 : decode cX12_asksForGood 114 = .ok (.iaload, 1) := by decide +kernel
theorem dX12_asksForGood_115 : decode cX12_asksForGood 115 = .ok (.invokevirtual 125, 3) := by decide +kernel
theorem dX12_asksForGood_118 : decode cX12_asksForGood 118 = .ok (.aload_n 0, 1) := by decide +kernel
theorem dX12_asksForGood_119 : decode cX12_asksForGood 119 = .ok (.getfield 9, 3) := by decide +kernel
theorem dX12_asksForGood_122 : decode cX12_asksForGood 122 = .ok (.sipush 310, 3) := by decide +kernel
theorem dX12_asksForGood_125 : decode cX12_asksForGood 125 = .ok (.iload_n 1, 1) := by decide +kernel
theorem dX12_asksForGood_126 : decode cX12_asksForGood 126 = .ok (.iadd, 1) := by decide +kernel
theorem dX12_asksForGood_127 : decode cX12_asksForGood 127 = .ok (.iconst 1, 1) := by decide +kernel
theorem dX12_asksForGood_128 : decode cX12_asksForGood 128 = .ok (.iastore, 1) := by decide +kernel
theorem dX12_asksForGood_129 : decode cX12_asksForGood 129 = .ok (.aload_n 0, 1) := by decide +kernel
theorem dX12_asksForGood_130 : decode cX12_asksForGood 130 = .ok (.getfield 9, 3) := by decide +kernel
theorem dX12_asksForGood_133 : decode cX12_asksForGood 133 = .ok (.bipush 11, 2) := by decide +kernel
theorem dX12_asksForGood_135 : decode cX12_asksForGood 135 = .ok (.dup2, 1) := by decide +kernel
theorem dX12_asksForGood_136 : decode cX12_asksForGood 136 = .ok (.iaload, 1) := by decide +kernel
theorem dX12_asksForGood_137 : decode cX12_asksForGood 137 = .ok (.iconst 1, 1) := by decide +kernel
theorem dX12_asksForGood_138 : decode cX12_asksForGood 138 = .ok (.iadd, 1) := by decide +kernel
theorem dX12_asksForGood_139 : decode cX12_asksForGood 139 = .ok (.iastore, 1) := by decide +kernel
theorem dX12_asksForGood_140 : decode cX12_asksForGood 140 = .ok (.aload_n 0, 1) := by decide +kernel
theorem dX12_asksForGood_141 : decode cX12_asksForGood 141 = .ok (.getfield 9, 3) := by decide +kernel
theorem dX12_asksForGood_144 : decode cX12_asksForGood 144 = .ok (.sipush 6736, 3) := by decide +kernel
theorem dX12_asksForGood_147 : decode cX12_asksForGood 147 = .ok (.iconst 5, 1) := by decide +kernel
theorem dX12_asksForGood_148 : decode cX12_asksForGood 148 = .ok (.iload_n 1, 1) := by decide +kernel
theorem dX12_asksForGood_149 : decode cX12_asksForGood 149 = .ok (.imul, 1) := by decide +kernel
theorem dX12_asksForGood_150 : decode cX12_asksForGood 150 = .ok (.iadd, 1) := by decide +kernel
theorem dX12_asksForGood_151 : decode cX12_asksForGood 151 = .ok (.iconst 4, 1) := by decide +kernel
theorem dX12_asksForGood_152 : decode cX12_asksForGood 152 = .ok (.iadd, 1) := by decide +kernel
theorem dX12_asksForGood_153 : decode cX12_asksForGood 153 = .ok (.dup2, 1) := by decide +kernel
theorem dX12_asksForGood_154 : decode cX12_asksForGood 154 = .ok (.iaload, 1) := by decide +kernel
theorem dX12_asksForGood_155 : decode cX12_asksForGood 155 = .ok (.iconst 1, 1) := by decide +kernel
theorem dX12_asksForGood_156 : decode cX12_asksForGood 156 = .ok (.iadd, 1) := by decide +kernel
theorem dX12_asksForGood_157 : decode cX12_asksForGood 157 = .ok (.iastore, 1) := by decide +kernel
theorem dX12_asksForGood_158 : decode cX12_asksForGood 158 = .ok (.aload_n 0, 1) := by decide +kernel
theorem dX12_asksForGood_159 : decode cX12_asksForGood 159 = .ok (.iload_n 1, 1) := by decide +kernel
theorem dX12_asksForGood_160 : decode cX12_asksForGood 160 = .ok (.iload_n 3, 1) := by decide +kernel
theorem dX12_asksForGood_161 : decode cX12_asksForGood 161 = .ok (.invokevirtual 128, 3) := by decide +kernel
theorem dX12_asksForGood_164 : decode cX12_asksForGood 164 = .ok (.return_, 1) := by decide +kernel
def xX12_asksForGood_82   (l1 : Int32) (l2 : Int32) (l3 : Int32) (s1 : Int32) (s0 : Int32) (M : j_M) : Option (j_M) := gd s1 7460 (oml (mw M 201 (ix s1) s0) fun M1 => gd ((nI 484) + l2) 7460 (oml (mw M1 201 (ix ((nI 484) + l2)) (nI 0)) fun M2 => obv (xX12_notes (nI 3) l1 l3 M2) fun M3 => gd ((nI 442) + l2) 7460 (oli (M3 201 (ix ((nI 442) + l2))) fun v4 => obv (xX12_tellsAll l1 (nI 4) l3 v4 M3) fun M5 => gd ((nI 310) + l1) 7460 (oml (mw M5 201 (ix ((nI 310) + l1)) (nI 1)) fun M6 => gd (nI 11) 7460 (oli (M6 201 (ix (nI 11))) fun v7 => gd (nI 11) 7460 (oml (mw M6 201 (ix (nI 11)) (v7 + (nI 1))) fun M8 => gd (((nI 6736) + ((nI 5) * l1)) + (nI 4)) 7460 (oli (M8 201 (ix (((nI 6736) + ((nI 5) * l1)) + (nI 4)))) fun v9 => gd (((nI 6736) + ((nI 5) * l1)) + (nI 4)) 7460 (oml (mw M8 201 (ix (((nI 6736) + ((nI 5) * l1)) + (nI 4))) (v9 + (nI 1))) fun M10 => obv (xX12_settles l1 l3 M10) fun M11 => some M11))))))))
set_option maxRecDepth 20000 in
set_option maxHeartbeats 2000000 in
theorem tX12_asksForGood_82    (l1 : Int32) (l2 : Int32) (l3 : Int32) (s1 : Int32) (s0 : Int32) (M : j_M) : J (ρ := j_M) yX12_asksForGood cX12_asksForGood 4 none 6 144 j_ev 82 [(0, .inr (17, 0, 200)), (1, .inl (l1)), (2, .inl (l2)), (3, .inl (l3))] [.inl (s0), .inl (s1), .inr (1, 7460, 201)] M (xX12_asksForGood_82  l1 l2 l3 s1 s0 M) := by
  unfold xX12_asksForGood_82
  refine K_iast (q := 83) dX12_asksForGood_82 rfl (fun M1 => ?_)
  refine K_aload_n (q := 84) 0 dX12_asksForGood_83 rfl rfl rfl ?_
  refine K_getR (q := 87) (ci := 7) (a2 := 201) 0 dX12_asksForGood_84 fRX12_9 rfl rfl (by decide) rfl rfl ?_
  refine K_sipush (q := 90) (v := nI 484) dX12_asksForGood_87 rfl rfl ?_
  refine K_iload_n (q := 91) 2 dX12_asksForGood_90 rfl rfl rfl ?_
  refine K_iadd (q := 92) dX12_asksForGood_91 rfl ?_
  refine K_iconst (q := 93) (v := nI 0) dX12_asksForGood_92 rfl rfl ?_
  refine K_iast (q := 94) dX12_asksForGood_93 rfl (fun M2 => ?_)
  refine K_aload_n (q := 95) 0 dX12_asksForGood_94 rfl rfl rfl ?_
  refine K_iconst (q := 96) (v := nI 3) dX12_asksForGood_95 rfl rfl ?_
  refine K_iload_n (q := 97) 1 dX12_asksForGood_96 rfl rfl rfl ?_
  refine K_iload_n (q := 98) 3 dX12_asksForGood_97 rfl rfl rfl ?_
  refine K_cvv (q := 101) [.inl ((nI 3)), .inl (l1), .inl (l3)] dX12_asksForGood_98 cb_X12_notes cvRX12_122 rc_7 (show (17 : Nat) ≠ 0 by decide) rfl (Nat.le_of_ble_eq_true rfl) ⟨by decide, by decide⟩ (Nat.le_of_ble_eq_true rfl) rfl (tX12_notes (nI 3) l1 l3 M2) rfl (fun M3 => ?_)
  refine K_aload_n (q := 102) 0 dX12_asksForGood_101 rfl rfl rfl ?_
  refine K_iload_n (q := 103) 1 dX12_asksForGood_102 rfl rfl rfl ?_
  refine K_iconst (q := 104) (v := nI 4) dX12_asksForGood_103 rfl rfl ?_
  refine K_iload_n (q := 105) 3 dX12_asksForGood_104 rfl rfl rfl ?_
  refine K_aload_n (q := 106) 0 dX12_asksForGood_105 rfl rfl rfl ?_
  refine K_getR (q := 109) (ci := 7) (a2 := 201) 0 dX12_asksForGood_106 fRX12_9 rfl rfl (by decide) rfl rfl ?_
  refine K_sipush (q := 112) (v := nI 442) dX12_asksForGood_109 rfl rfl ?_
  refine K_iload_n (q := 113) 2 dX12_asksForGood_112 rfl rfl rfl ?_
  refine K_iadd (q := 114) dX12_asksForGood_113 rfl ?_
  refine K_iald (q := 115) dX12_asksForGood_114 rfl (fun v4 => ?_)
  refine K_cvv (q := 118) [.inl (l1), .inl ((nI 4)), .inl (l3), .inl (v4)] dX12_asksForGood_115 cb_X12_tellsAll cvRX12_125 rc_7 (show (17 : Nat) ≠ 0 by decide) rfl (Nat.le_of_ble_eq_true rfl) ⟨by decide, by decide⟩ (Nat.le_of_ble_eq_true rfl) rfl (tX12_tellsAll l1 (nI 4) l3 v4 M3) rfl (fun M5 => ?_)
  refine K_aload_n (q := 119) 0 dX12_asksForGood_118 rfl rfl rfl ?_
  refine K_getR (q := 122) (ci := 7) (a2 := 201) 0 dX12_asksForGood_119 fRX12_9 rfl rfl (by decide) rfl rfl ?_
  refine K_sipush (q := 125) (v := nI 310) dX12_asksForGood_122 rfl rfl ?_
  refine K_iload_n (q := 126) 1 dX12_asksForGood_125 rfl rfl rfl ?_
  refine K_iadd (q := 127) dX12_asksForGood_126 rfl ?_
  refine K_iconst (q := 128) (v := nI 1) dX12_asksForGood_127 rfl rfl ?_
  refine K_iast (q := 129) dX12_asksForGood_128 rfl (fun M6 => ?_)
  refine K_aload_n (q := 130) 0 dX12_asksForGood_129 rfl rfl rfl ?_
  refine K_getR (q := 133) (ci := 7) (a2 := 201) 0 dX12_asksForGood_130 fRX12_9 rfl rfl (by decide) rfl rfl ?_
  refine K_bipush (q := 135) (v := nI 11) dX12_asksForGood_133 rfl rfl ?_
  refine K_dup2 (q := 136) dX12_asksForGood_135 rfl ?_
  refine K_iald (q := 137) dX12_asksForGood_136 rfl (fun v7 => ?_)
  refine K_iconst (q := 138) (v := nI 1) dX12_asksForGood_137 rfl rfl ?_
  refine K_iadd (q := 139) dX12_asksForGood_138 rfl ?_
  refine K_iast (q := 140) dX12_asksForGood_139 rfl (fun M8 => ?_)
  refine K_aload_n (q := 141) 0 dX12_asksForGood_140 rfl rfl rfl ?_
  refine K_getR (q := 144) (ci := 7) (a2 := 201) 0 dX12_asksForGood_141 fRX12_9 rfl rfl (by decide) rfl rfl ?_
  refine K_sipush (q := 147) (v := nI 6736) dX12_asksForGood_144 rfl rfl ?_
  refine K_iconst (q := 148) (v := nI 5) dX12_asksForGood_147 rfl rfl ?_
  refine K_iload_n (q := 149) 1 dX12_asksForGood_148 rfl rfl rfl ?_
  refine K_imul (q := 150) dX12_asksForGood_149 rfl ?_
  refine K_iadd (q := 151) dX12_asksForGood_150 rfl ?_
  refine K_iconst (q := 152) (v := nI 4) dX12_asksForGood_151 rfl rfl ?_
  refine K_iadd (q := 153) dX12_asksForGood_152 rfl ?_
  refine K_dup2 (q := 154) dX12_asksForGood_153 rfl ?_
  refine K_iald (q := 155) dX12_asksForGood_154 rfl (fun v9 => ?_)
  refine K_iconst (q := 156) (v := nI 1) dX12_asksForGood_155 rfl rfl ?_
  refine K_iadd (q := 157) dX12_asksForGood_156 rfl ?_
  refine K_iast (q := 158) dX12_asksForGood_157 rfl (fun M10 => ?_)
  refine K_aload_n (q := 159) 0 dX12_asksForGood_158 rfl rfl rfl ?_
  refine K_iload_n (q := 160) 1 dX12_asksForGood_159 rfl rfl rfl ?_
  refine K_iload_n (q := 161) 3 dX12_asksForGood_160 rfl rfl rfl ?_
  refine K_cvv (q := 164) [.inl (l1), .inl (l3)] dX12_asksForGood_161 cb_X12_settles cvRX12_128 rc_7 (show (17 : Nat) ≠ 0 by decide) rfl (Nat.le_of_ble_eq_true rfl) ⟨by decide, by decide⟩ (Nat.le_of_ble_eq_true rfl) rfl (tX12_settles l1 l3 M10) rfl (fun M11 => ?_)
  exact J_vret dX12_asksForGood_164
def xX12_asksForGood  (l1 : Int32) (M : j_M) : Option (j_M) := gd ((nI 292) + l1) 7460 (oli (M 201 (ix ((nI 292) + l1))) fun v1 => gd ((nI 316) + (((nI 6) * l1) + l1)) 7460 (oli (M 201 (ix ((nI 316) + (((nI 6) * l1) + l1)))) fun v2 => gd ((nI 316) + (((nI 6) * l1) + l1)) 7460 (oml (mw M 201 (ix ((nI 316) + (((nI 6) * l1) + l1))) (v2 + (nI 1))) fun M3 => gd ((nI 358) + (((nI 6) * l1) + l1)) 7460 (oml (mw M3 201 (ix ((nI 358) + (((nI 6) * l1) + l1))) (nI 1)) fun M4 => gd ((nI 400) + (((nI 6) * l1) + l1)) 7460 (oml (mw M4 201 (ix ((nI 400) + (((nI 6) * l1) + l1))) v1) fun M5 => gd ((nI 298) + l1) 7460 (oli (M5 201 (ix ((nI 298) + l1))) fun v6 => (if v6 = (nI 1) then xX12_asksForGood_82  l1 (((nI 6) * l1) + l1) v1 ((nI 442) + (((nI 6) * l1) + l1)) (nI 1) M5 else xX12_asksForGood_82  l1 (((nI 6) * l1) + l1) v1 ((nI 442) + (((nI 6) * l1) + l1)) (nI 2) M5)))))))
set_option maxRecDepth 20000 in
set_option maxHeartbeats 2000000 in
theorem tX12_asksForGood  (l1 : Int32) (M : j_M) : J (ρ := j_M) yX12_asksForGood cX12_asksForGood 4 none 6 144 j_ev 0 [(0, .inr (17, 0, 200)), (1, .inl (l1))] [] M (xX12_asksForGood  l1 M) := by
  unfold xX12_asksForGood
  refine K_bipush (q := 2) (v := nI 6) dX12_asksForGood_0 rfl rfl ?_
  refine K_iload_n (q := 3) 1 dX12_asksForGood_2 rfl rfl rfl ?_
  refine K_imul (q := 4) dX12_asksForGood_3 rfl ?_
  refine K_iload_n (q := 5) 1 dX12_asksForGood_4 rfl rfl rfl ?_
  refine K_iadd (q := 6) dX12_asksForGood_5 rfl ?_
  refine K_istore_n (q := 7) (ll' := [(2, .inl (((nI 6) * l1) + l1)), (0, .inr (17, 0, 200)), (1, .inl (l1))]) dX12_asksForGood_6 rfl (by decide) rfl rfl ?_
  refine K_aload_n (q := 8) 1 dX12_asksForGood_7 rfl rfl rfl ?_
  refine K_getR (q := 11) (ci := 7) (a2 := 201) 0 dX12_asksForGood_8 fRX12_9 rfl rfl (by decide) rfl rfl ?_
  refine K_sipush (q := 14) (v := nI 292) dX12_asksForGood_11 rfl rfl ?_
  refine K_iload_n (q := 15) 2 dX12_asksForGood_14 rfl rfl rfl ?_
  refine K_iadd (q := 16) dX12_asksForGood_15 rfl ?_
  refine K_iald (q := 17) dX12_asksForGood_16 rfl (fun v1 => ?_)
  refine K_istore_n (q := 18) (ll' := [(3, .inl (v1)), (2, .inl (((nI 6) * l1) + l1)), (0, .inr (17, 0, 200)), (1, .inl (l1))]) dX12_asksForGood_17 rfl (by decide) rfl rfl ?_
  refine K_aload_n (q := 19) 2 dX12_asksForGood_18 rfl rfl rfl ?_
  refine K_getR (q := 22) (ci := 7) (a2 := 201) 0 dX12_asksForGood_19 fRX12_9 rfl rfl (by decide) rfl rfl ?_
  refine K_sipush (q := 25) (v := nI 316) dX12_asksForGood_22 rfl rfl ?_
  refine K_iload_n (q := 26) 1 dX12_asksForGood_25 rfl rfl rfl ?_
  refine K_iadd (q := 27) dX12_asksForGood_26 rfl ?_
  refine K_dup2 (q := 28) dX12_asksForGood_27 rfl ?_
  refine K_iald (q := 29) dX12_asksForGood_28 rfl (fun v2 => ?_)
  refine K_iconst (q := 30) (v := nI 1) dX12_asksForGood_29 rfl rfl ?_
  refine K_iadd (q := 31) dX12_asksForGood_30 rfl ?_
  refine K_iast (q := 32) dX12_asksForGood_31 rfl (fun M3 => ?_)
  refine K_aload_n (q := 33) 2 dX12_asksForGood_32 rfl rfl rfl ?_
  refine K_getR (q := 36) (ci := 7) (a2 := 201) 0 dX12_asksForGood_33 fRX12_9 rfl rfl (by decide) rfl rfl ?_
  refine K_sipush (q := 39) (v := nI 358) dX12_asksForGood_36 rfl rfl ?_
  refine K_iload_n (q := 40) 1 dX12_asksForGood_39 rfl rfl rfl ?_
  refine K_iadd (q := 41) dX12_asksForGood_40 rfl ?_
  refine K_iconst (q := 42) (v := nI 1) dX12_asksForGood_41 rfl rfl ?_
  refine K_iast (q := 43) dX12_asksForGood_42 rfl (fun M4 => ?_)
  refine K_aload_n (q := 44) 2 dX12_asksForGood_43 rfl rfl rfl ?_
  refine K_getR (q := 47) (ci := 7) (a2 := 201) 0 dX12_asksForGood_44 fRX12_9 rfl rfl (by decide) rfl rfl ?_
  refine K_sipush (q := 50) (v := nI 400) dX12_asksForGood_47 rfl rfl ?_
  refine K_iload_n (q := 51) 1 dX12_asksForGood_50 rfl rfl rfl ?_
  refine K_iadd (q := 52) dX12_asksForGood_51 rfl ?_
  refine K_iload_n (q := 53) 0 dX12_asksForGood_52 rfl rfl rfl ?_
  refine K_iast (q := 54) dX12_asksForGood_53 rfl (fun M5 => ?_)
  refine K_aload_n (q := 55) 2 dX12_asksForGood_54 rfl rfl rfl ?_
  refine K_getR (q := 58) (ci := 7) (a2 := 201) 0 dX12_asksForGood_55 fRX12_9 rfl rfl (by decide) rfl rfl ?_
  refine K_sipush (q := 61) (v := nI 442) dX12_asksForGood_58 rfl rfl ?_
  refine K_iload_n (q := 62) 1 dX12_asksForGood_61 rfl rfl rfl ?_
  refine K_iadd (q := 63) dX12_asksForGood_62 rfl ?_
  refine K_aload_n (q := 64) 2 dX12_asksForGood_63 rfl rfl rfl ?_
  refine K_getR (q := 67) (ci := 7) (a2 := 201) 0 dX12_asksForGood_64 fRX12_9 rfl rfl (by decide) rfl rfl ?_
  refine K_sipush (q := 70) (v := nI 298) dX12_asksForGood_67 rfl rfl ?_
  refine K_iload_n (q := 71) 3 dX12_asksForGood_70 rfl rfl rfl ?_
  refine K_iadd (q := 72) dX12_asksForGood_71 rfl ?_
  refine K_iald (q := 73) dX12_asksForGood_72 rfl (fun v6 => ?_)
  refine K_iconst (q := 74) (v := nI 1) dX12_asksForGood_73 rfl rfl ?_
  refine K_icmp_ne (q := 77) (tgt := 81) dX12_asksForGood_74 rfl ?_ rfl ?_
  · refine K_iconst (q := 82) (v := nI 2) dX12_asksForGood_81 rfl rfl ?_
    exact J_sub [2, 3, 1, 0] (tX12_asksForGood_82  l1 (((nI 6) * l1) + l1) v1 ((nI 442) + (((nI 6) * l1) + l1)) (nI 2) M5) rfl
  · refine K_iconst (q := 78) (v := nI 1) dX12_asksForGood_77 rfl rfl ?_
    refine J_goto (tgt := 82) dX12_asksForGood_78 rfl ?_
    exact J_sub [2, 3, 1, 0] (tX12_asksForGood_82  l1 (((nI 6) * l1) + l1) v1 ((nI 442) + (((nI 6) * l1) + l1)) (nI 1) M5) rfl
theorem dX12_evict_0 : decode cX12_evict 0 = .ok (.aload_n 0, 1) := by decide +kernel
theorem dX12_evict_1 : decode cX12_evict 1 = .ok (.iload_n 1, 1) := by decide +kernel
theorem dX12_evict_2 : decode cX12_evict 2 = .ok (.invokevirtual 69, 3) := by decide +kernel
theorem dX12_evict_5 : decode cX12_evict 5 = .ok (.ifCond .eq 40, 3) := by decide +kernel
theorem dX12_evict_8 : decode cX12_evict 8 = .ok (.iload_n 2, 1) := by decide +kernel
theorem dX12_evict_9 : decode cX12_evict 9 = .ok (.invokestatic 140, 3) := by decide +kernel
theorem dX12_evict_12 : decode cX12_evict 12 = .ok (.ifCond .eq 33, 3) := by decide +kernel
theorem dX12_evict_15 : decode cX12_evict 15 = .ok (.aload_n 0, 1) := by decide +kernel
theorem dX12_evict_16 : decode cX12_evict 16 = .ok (.getfield 9, 3) := by decide +kernel
theorem dX12_evict_19 : decode cX12_evict 19 = .ok (.bipush 14, 2) := by decide +kernel
theorem dX12_evict_21 : decode cX12_evict 21 = .ok (.iload_n 1, 1) := by decide +kernel
theorem dX12_evict_22 : decode cX12_evict 22 = .ok (.iload_n 2, 1) := by decide +kernel
theorem dX12_evict_23 : decode cX12_evict 23 = .ok (.invokestatic 61, 3) := by decide +kernel
theorem dX12_evict_26 : decode cX12_evict 26 = .ok (.iadd, 1) := by decide +kernel
theorem dX12_evict_27 : decode cX12_evict 27 = .ok (.iaload, 1) := by decide +kernel
theorem dX12_evict_28 : decode cX12_evict 28 = .ok (.ifCond .eq 17, 3) := by decide +kernel
theorem dX12_evict_31 : decode cX12_evict 31 = .ok (.aload_n 0, 1) := by decide +kernel
theorem dX12_evict_32 : decode cX12_evict 32 = .ok (.getfield 9, 3) := by decide +kernel
theorem dX12_evict_35 : decode cX12_evict 35 = .ok (.sipush 292, 3) := by decide +kernel
theorem dX12_evict_38 : decode cX12_evict 38 = .ok (.iload_n 1, 1) := by decide +kernel
theorem dX12_evict_39 : decode cX12_evict 39 = .ok (.iadd, 1) := by decide +kernel
theorem dX12_evict_40 : decode cX12_evict 40 = .ok (.iaload, 1) := by decide +kernel
theorem dX12_evict_41 : decode cX12_evict 41 = .ok (.iload_n 2, 1) := by decide +kernel
theorem dX12_evict_42 : decode cX12_evict 42 = .ok (.if_icmp .ne 5, 3) := by decide +kernel
theorem dX12_evict_45 : decode cX12_evict 45 = .ok (.iconst 0, 1) := by decide +kernel
theorem dX12_evict_46 : decode cX12_evict 46 = .ok (.ireturn, 1) := by decide +kernel
theorem dX12_evict_47 : decode cX12_evict 47 = .ok (.aload_n 0, 1) := by decide +kernel
theorem dX12_evict_48 : decode cX12_evict 48 = .ok (.iload_n 1, 1) := by decide +kernel
theorem dX12_evict_49 : decode cX12_evict 49 = .ok (.iload_n 2, 1) := by decide +kernel
theorem dX12_evict_50 : decode cX12_evict 50 = .ok (.invokevirtual 156, 3) := by decide +kernel
theorem dX12_evict_53 : decode cX12_evict 53 = .ok (.iconst 1, 1) := by decide +kernel
theorem dX12_evict_54 : decode cX12_evict 54 = .ok (.ireturn, 1) := by decide +kernel
def xX12_evict  (l1 : Int32) (l2 : Int32) (M : j_M) : Option (Int32 × j_M) := obi (xX12_isCpu l1 M) fun v2 M1 => (if v2 = (0 : Int32) then some ((nI 0), M1) else obi (xX12_isLine l2 M1) fun v4 M3 => (if v4 = (0 : Int32) then some ((nI 0), M3) else obi (xX12_place l1 l2 M3) fun v6 M5 => gd ((nI 14) + v6) 7460 (oli (M5 201 (ix ((nI 14) + v6))) fun v7 => (if v7 = (0 : Int32) then some ((nI 0), M5) else gd ((nI 292) + l1) 7460 (oli (M5 201 (ix ((nI 292) + l1))) fun v8 => (if v8 = l2 then some ((nI 0), M5) else obv (xX12_evicts l1 l2 M5) fun M9 => some ((nI 1), M9)))))))
set_option maxRecDepth 20000 in
set_option maxHeartbeats 2000000 in
theorem tX12_evict  (l1 : Int32) (l2 : Int32) (M : j_M) : J (ρ := Int32 × j_M) yX12_evict cX12_evict 3 (some .boolean) 6 141 j_ei 0 [(0, .inr (17, 0, 200)), (1, .inl (l1)), (2, .inl (l2))] [] M (xX12_evict  l1 l2 M) := by
  unfold xX12_evict
  refine K_aload_n (q := 1) 0 dX12_evict_0 rfl rfl rfl ?_
  refine K_iload_n (q := 2) 1 dX12_evict_1 rfl rfl rfl ?_
  refine K_cvi (q := 5) [.inl (l1)] dX12_evict_2 cb_X12_isCpu cvRX12_69 rc_7 (show (17 : Nat) ≠ 0 by decide) rfl (Nat.le_of_ble_eq_true rfl) ⟨by decide, by decide⟩ (Nat.le_of_ble_eq_true rfl) rfl (tX12_isCpu l1 M) rfl (fun v2 M1 => ?_)
  refine K_if_eq (q := 8) (tgt := 45) dX12_evict_5 rfl ?_ rfl ?_
  · refine K_iconst (q := 46) (v := nI 0) dX12_evict_45 rfl rfl ?_
    exact J_zret dX12_evict_46 (by decide)
  · refine K_iload_n (q := 9) 2 dX12_evict_8 rfl rfl rfl ?_
    refine K_csi (q := 12) [.inl (l2)] dX12_evict_9 cb_X12_isLine cvRX12_140 rfl (Nat.le_of_ble_eq_true rfl) ⟨by decide, by decide⟩ (Nat.le_of_ble_eq_true rfl) rfl (tX12_isLine l2 M1) rfl (fun v4 M3 => ?_)
    refine K_if_eq (q := 15) (tgt := 45) dX12_evict_12 rfl ?_ rfl ?_
    · refine K_iconst (q := 46) (v := nI 0) dX12_evict_45 rfl rfl ?_
      exact J_zret dX12_evict_46 (by decide)
    · refine K_aload_n (q := 16) 0 dX12_evict_15 rfl rfl rfl ?_
      refine K_getR (q := 19) (ci := 7) (a2 := 201) 0 dX12_evict_16 fRX12_9 rfl rfl (by decide) rfl rfl ?_
      refine K_bipush (q := 21) (v := nI 14) dX12_evict_19 rfl rfl ?_
      refine K_iload_n (q := 22) 1 dX12_evict_21 rfl rfl rfl ?_
      refine K_iload_n (q := 23) 2 dX12_evict_22 rfl rfl rfl ?_
      refine K_csi (q := 26) [.inl (l1), .inl (l2)] dX12_evict_23 cb_X12_place cvRX12_61 rfl (Nat.le_of_ble_eq_true rfl) ⟨by decide, by decide⟩ (Nat.le_of_ble_eq_true rfl) rfl (tX12_place l1 l2 M3) rfl (fun v6 M5 => ?_)
      refine K_iadd (q := 27) dX12_evict_26 rfl ?_
      refine K_iald (q := 28) dX12_evict_27 rfl (fun v7 => ?_)
      refine K_if_eq (q := 31) (tgt := 45) dX12_evict_28 rfl ?_ rfl ?_
      · refine K_iconst (q := 46) (v := nI 0) dX12_evict_45 rfl rfl ?_
        exact J_zret dX12_evict_46 (by decide)
      · refine K_aload_n (q := 32) 0 dX12_evict_31 rfl rfl rfl ?_
        refine K_getR (q := 35) (ci := 7) (a2 := 201) 0 dX12_evict_32 fRX12_9 rfl rfl (by decide) rfl rfl ?_
        refine K_sipush (q := 38) (v := nI 292) dX12_evict_35 rfl rfl ?_
        refine K_iload_n (q := 39) 1 dX12_evict_38 rfl rfl rfl ?_
        refine K_iadd (q := 40) dX12_evict_39 rfl ?_
        refine K_iald (q := 41) dX12_evict_40 rfl (fun v8 => ?_)
        refine K_iload_n (q := 42) 2 dX12_evict_41 rfl rfl rfl ?_
        refine K_icmp_ne (q := 45) (tgt := 47) dX12_evict_42 rfl ?_ rfl ?_
        · refine K_aload_n (q := 48) 0 dX12_evict_47 rfl rfl rfl ?_
          refine K_iload_n (q := 49) 1 dX12_evict_48 rfl rfl rfl ?_
          refine K_iload_n (q := 50) 2 dX12_evict_49 rfl rfl rfl ?_
          refine K_cvv (q := 53) [.inl (l1), .inl (l2)] dX12_evict_50 cb_X12_evicts cvRX12_156 rc_7 (show (17 : Nat) ≠ 0 by decide) rfl (Nat.le_of_ble_eq_true rfl) ⟨by decide, by decide⟩ (Nat.le_of_ble_eq_true rfl) rfl (tX12_evicts l1 l2 M5) rfl (fun M9 => ?_)
          refine K_iconst (q := 54) (v := nI 1) dX12_evict_53 rfl rfl ?_
          exact J_zret dX12_evict_54 (by decide)
        · refine K_iconst (q := 46) (v := nI 0) dX12_evict_45 rfl rfl ?_
          exact J_zret dX12_evict_46 (by decide)
theorem dX12_draw_0 : decode cX12_draw 0 = .ok (.aload_n 0, 1) := by decide +kernel
theorem dX12_draw_1 : decode cX12_draw 1 = .ok (.getfield 9, 3) := by decide +kernel
theorem dX12_draw_4 : decode cX12_draw 4 = .ok (.bipush 6, 2) := by decide +kernel
theorem dX12_draw_6 : decode cX12_draw 6 = .ok (.ldc 73, 2) := by decide +kernel
theorem dX12_draw_8 : decode cX12_draw 8 = .ok (.aload_n 0, 1) := by decide +kernel
theorem dX12_draw_9 : decode cX12_draw 9 = .ok (.getfield 9, 3) := by decide +kernel
theorem dX12_draw_12 : decode cX12_draw 12 = .ok (.bipush 6, 2) := by decide +kernel
theorem dX12_draw_14 : decode cX12_draw 14 = .ok (.iaload, 1) := by decide +kernel
theorem dX12_draw_15 : decode cX12_draw 15 = .ok (.imul, 1) := by decide +kernel
theorem dX12_draw_16 : decode cX12_draw 16 = .ok (.ldc 74, 2) := by decide +kernel
theorem dX12_draw_18 : decode cX12_draw 18 = .ok (.iadd, 1) := by decide +kernel
theorem dX12_draw_19 : decode cX12_draw 19 = .ok (.iastore, 1) := by decide +kernel
theorem dX12_draw_20 : decode cX12_draw 20 = .ok (.aload_n 0, 1) := by decide +kernel
theorem dX12_draw_21 : decode cX12_draw 21 = .ok (.getfield 9, 3) := by decide +kernel
theorem dX12_draw_24 : decode cX12_draw 24 = .ok (.bipush 6, 2) := by decide +kernel
theorem dX12_draw_26 : decode cX12_draw 26 = .ok (.iaload, 1) := by decide +kernel
theorem dX12_draw_27 : decode cX12_draw 27 = .ok (.bipush 8, 2) := by decide +kernel
theorem dX12_draw_29 : decode cX12_draw 29 = .ok (.iushr, 1) := by decide +kernel
theorem dX12_draw_30 : decode cX12_draw 30 = .ok (.iload_n 1, 1) := by decide +kernel
theorem dX12_draw_31 : decode cX12_draw 31 = .ok (.irem, 1) := by decide +kernel
theorem dX12_draw_32 : decode cX12_draw 32 = .ok (.ireturn, 1) := by decide +kernel
def xX12_draw  (l1 : Int32) (M : j_M) : Option (Int32 × j_M) := gd (nI 6) 7460 (oli (M 201 (ix (nI 6))) fun v1 => gd (nI 6) 7460 (oml (mw M 201 (ix (nI 6)) (((1664525 : Int32) * v1) + (1013904223 : Int32))) fun M2 => gd (nI 6) 7460 (oli (M2 201 (ix (nI 6))) fun v3 => gn l1 (some ((us v3 (nI 8)) - (us v3 (nI 8)) / l1 * l1, M2)))))
set_option maxRecDepth 20000 in
set_option maxHeartbeats 2000000 in
theorem tX12_draw  (l1 : Int32) (M : j_M) : J (ρ := Int32 × j_M) yX12_draw cX12_draw 2 (some .int) 0 0 j_ei 0 [(0, .inr (17, 0, 200)), (1, .inl (l1))] [] M (xX12_draw  l1 M) := by
  unfold xX12_draw
  refine K_aload_n (q := 1) 0 dX12_draw_0 rfl rfl rfl ?_
  refine K_getR (q := 4) (ci := 7) (a2 := 201) 0 dX12_draw_1 fRX12_9 rfl rfl (by decide) rfl rfl ?_
  refine K_bipush (q := 6) (v := nI 6) dX12_draw_4 rfl rfl ?_
  refine K_ldc (q := 8) (v := 1664525) dX12_draw_6 (j_in 1507 (by decide +kernel) (by decide +kernel)) rfl ?_
  refine K_aload_n (q := 9) 0 dX12_draw_8 rfl rfl rfl ?_
  refine K_getR (q := 12) (ci := 7) (a2 := 201) 0 dX12_draw_9 fRX12_9 rfl rfl (by decide) rfl rfl ?_
  refine K_bipush (q := 14) (v := nI 6) dX12_draw_12 rfl rfl ?_
  refine K_iald (q := 15) dX12_draw_14 rfl (fun v1 => ?_)
  refine K_imul (q := 16) dX12_draw_15 rfl ?_
  refine K_ldc (q := 18) (v := 1013904223) dX12_draw_16 (j_in 1508 (by decide +kernel) (by decide +kernel)) rfl ?_
  refine K_iadd (q := 19) dX12_draw_18 rfl ?_
  refine K_iast (q := 20) dX12_draw_19 rfl (fun M2 => ?_)
  refine K_aload_n (q := 21) 0 dX12_draw_20 rfl rfl rfl ?_
  refine K_getR (q := 24) (ci := 7) (a2 := 201) 0 dX12_draw_21 fRX12_9 rfl rfl (by decide) rfl rfl ?_
  refine K_bipush (q := 26) (v := nI 6) dX12_draw_24 rfl rfl ?_
  refine K_iald (q := 27) dX12_draw_26 rfl (fun v3 => ?_)
  refine K_bipush (q := 29) (v := nI 8) dX12_draw_27 rfl rfl ?_
  refine K_iushr (q := 30) dX12_draw_29 rfl ?_
  refine K_iload_n (q := 31) 1 dX12_draw_30 rfl rfl rfl ?_
  refine K_irem (q := 32) dX12_draw_31 rfl ?_
  exact J_iret dX12_draw_32
theorem dX12_load_0 : decode cX12_load 0 = .ok (.aload_n 0, 1) := by decide +kernel
theorem dX12_load_1 : decode cX12_load 1 = .ok (.iload_n 1, 1) := by decide +kernel
theorem dX12_load_2 : decode cX12_load 2 = .ok (.iload_n 2, 1) := by decide +kernel
theorem dX12_load_3 : decode cX12_load 3 = .ok (.iconst 0, 1) := by decide +kernel
theorem dX12_load_4 : decode cX12_load 4 = .ok (.invokevirtual 149, 3) := by decide +kernel
theorem dX12_load_7 : decode cX12_load 7 = .ok (.ifCond .ne 6, 3) := by decide +kernel
theorem dX12_load_10 : decode cX12_load 10 = .ok (.bipush (-2), 2) := by decide +kernel
theorem dX12_load_12 : decode cX12_load 12 = .ok (.ireturn, 1) := by decide +kernel
theorem dX12_load_13 : decode cX12_load 13 = .ok (.aload_n 0, 1) := by decide +kernel
theorem dX12_load_14 : decode cX12_load 14 = .ok (.iload_n 1, 1) := by decide +kernel
theorem dX12_load_15 : decode cX12_load 15 = .ok (.iload_n 2, 1) := by decide +kernel
theorem dX12_load_16 : decode cX12_load 16 = .ok (.iconst 1, 1) := by decide +kernel
theorem dX12_load_17 : decode cX12_load 17 = .ok (.iconst 0, 1) := by decide +kernel
theorem dX12_load_18 : decode cX12_load 18 = .ok (.invokevirtual 152, 3) := by decide +kernel
theorem dX12_load_21 : decode cX12_load 21 = .ok (.ifCond .eq 20, 3) := by decide +kernel
theorem dX12_load_24 : decode cX12_load 24 = .ok (.aload_n 0, 1) := by decide +kernel
theorem dX12_load_25 : decode cX12_load 25 = .ok (.getfield 9, 3) := by decide +kernel
theorem dX12_load_28 : decode cX12_load 28 = .ok (.sipush 182, 3) := by decide +kernel
theorem dX12_load_31 : decode cX12_load 31 = .ok (.iload_n 1, 1) := by decide +kernel
theorem dX12_load_32 : decode cX12_load 32 = .ok (.iload_n 2, 1) := by decide +kernel
theorem dX12_load_33 : decode cX12_load 33 = .ok (.invokestatic 61, 3) := by decide +kernel
theorem dX12_load_36 : decode cX12_load 36 = .ok (.iadd, 1) := by decide +kernel
theorem dX12_load_37 : decode cX12_load 37 = .ok (.iaload, 1) := by decide +kernel
theorem dX12_load_38 : decode cX12_load 38 = .ok (.goto 4, 3) := by decide +kernel
theorem dX12_load_41 : decode cX12_load 41 = .ok (.iconst (-1), 1) := by decide +kernel
theorem dX12_load_42 : decode cX12_load 42 = .ok (.ireturn, 1) := by decide +kernel
def xX12_load  (l1 : Int32) (l2 : Int32) (M : j_M) : Option (Int32 × j_M) := obi (xX12_can l1 l2 (nI 0) M) fun v2 M1 => (if v2 = (0 : Int32) then some ((-2 : Int32), M1) else obi (xX12_begins l1 l2 (nI 1) (nI 0) M1) fun v4 M3 => (if v4 = (0 : Int32) then some ((-1 : Int32), M3) else obi (xX12_place l1 l2 M3) fun v6 M5 => gd ((nI 182) + v6) 7460 (oli (M5 201 (ix ((nI 182) + v6))) fun v7 => some (v7, M5))))
set_option maxRecDepth 20000 in
set_option maxHeartbeats 2000000 in
theorem tX12_load  (l1 : Int32) (l2 : Int32) (M : j_M) : J (ρ := Int32 × j_M) yX12_load cX12_load 3 (some .int) 6 139 j_ei 0 [(0, .inr (17, 0, 200)), (1, .inl (l1)), (2, .inl (l2))] [] M (xX12_load  l1 l2 M) := by
  unfold xX12_load
  refine K_aload_n (q := 1) 0 dX12_load_0 rfl rfl rfl ?_
  refine K_iload_n (q := 2) 1 dX12_load_1 rfl rfl rfl ?_
  refine K_iload_n (q := 3) 2 dX12_load_2 rfl rfl rfl ?_
  refine K_iconst (q := 4) (v := nI 0) dX12_load_3 rfl rfl ?_
  refine K_cvi (q := 7) [.inl (l1), .inl (l2), .inl ((nI 0))] dX12_load_4 cb_X12_can cvRX12_149 rc_7 (show (17 : Nat) ≠ 0 by decide) rfl (Nat.le_of_ble_eq_true rfl) ⟨by decide, by decide⟩ (Nat.le_of_ble_eq_true rfl) rfl (tX12_can l1 l2 (nI 0) M) rfl (fun v2 M1 => ?_)
  refine K_if_ne (q := 10) (tgt := 13) dX12_load_7 rfl ?_ rfl ?_
  · refine K_aload_n (q := 14) 0 dX12_load_13 rfl rfl rfl ?_
    refine K_iload_n (q := 15) 1 dX12_load_14 rfl rfl rfl ?_
    refine K_iload_n (q := 16) 2 dX12_load_15 rfl rfl rfl ?_
    refine K_iconst (q := 17) (v := nI 1) dX12_load_16 rfl rfl ?_
    refine K_iconst (q := 18) (v := nI 0) dX12_load_17 rfl rfl ?_
    refine K_cvi (q := 21) [.inl (l1), .inl (l2), .inl ((nI 1)), .inl ((nI 0))] dX12_load_18 cb_X12_begins cvRX12_152 rc_7 (show (17 : Nat) ≠ 0 by decide) rfl (Nat.le_of_ble_eq_true rfl) ⟨by decide, by decide⟩ (Nat.le_of_ble_eq_true rfl) rfl (tX12_begins l1 l2 (nI 1) (nI 0) M1) rfl (fun v4 M3 => ?_)
    refine K_if_eq (q := 24) (tgt := 41) dX12_load_21 rfl ?_ rfl ?_
    · refine K_iconst (q := 42) (v := -1) dX12_load_41 rfl rfl ?_
      exact J_iret dX12_load_42
    · refine K_aload_n (q := 25) 0 dX12_load_24 rfl rfl rfl ?_
      refine K_getR (q := 28) (ci := 7) (a2 := 201) 0 dX12_load_25 fRX12_9 rfl rfl (by decide) rfl rfl ?_
      refine K_sipush (q := 31) (v := nI 182) dX12_load_28 rfl rfl ?_
      refine K_iload_n (q := 32) 1 dX12_load_31 rfl rfl rfl ?_
      refine K_iload_n (q := 33) 2 dX12_load_32 rfl rfl rfl ?_
      refine K_csi (q := 36) [.inl (l1), .inl (l2)] dX12_load_33 cb_X12_place cvRX12_61 rfl (Nat.le_of_ble_eq_true rfl) ⟨by decide, by decide⟩ (Nat.le_of_ble_eq_true rfl) rfl (tX12_place l1 l2 M3) rfl (fun v6 M5 => ?_)
      refine K_iadd (q := 37) dX12_load_36 rfl ?_
      refine K_iald (q := 38) dX12_load_37 rfl (fun v7 => ?_)
      refine J_goto (tgt := 42) dX12_load_38 rfl ?_
      exact J_iret dX12_load_42
  · refine K_bipush (q := 12) (v := -2) dX12_load_10 rfl rfl ?_
    exact J_iret dX12_load_12
theorem dX12_isAtHome_0 : decode cX12_isAtHome 0 = .ok (.iconst 0, 1) := by decide +kernel
theorem dX12_isAtHome_1 : decode cX12_isAtHome 1 = .ok (.istore_n 1, 1) := by decide +kernel
theorem dX12_isAtHome_2 : decode cX12_isAtHome 2 = .ok (.iload_n 1, 1) := by decide +kernel
theorem dX12_isAtHome_3 : decode cX12_isAtHome 3 = .ok (.bipush 8, 2) := by decide +kernel
theorem dX12_isAtHome_5 : decode cX12_isAtHome 5 = .ok (.if_icmp .ge 34, 3) := by decide +kernel
theorem dX12_isAtHome_8 : decode cX12_isAtHome 8 = .ok (.aload_n 0, 1) := by decide +kernel
theorem dX12_isAtHome_9 : decode cX12_isAtHome 9 = .ok (.getfield 9, 3) := by decide +kernel
theorem dX12_isAtHome_12 : decode cX12_isAtHome 12 = .ok (.bipush 14, 2) := by decide +kernel
theorem dX12_isAtHome_14 : decode cX12_isAtHome 14 = .ok (.bipush 6, 2) := by decide +kernel
theorem dX12_isAtHome_16 : decode cX12_isAtHome 16 = .ok (.iload_n 1, 1) := by decide +kernel
theorem dX12_isAtHome_17 : decode cX12_isAtHome 17 = .ok (.invokestatic 61, 3) := by decide +kernel
theorem dX12_isAtHome_20 : decode cX12_isAtHome 20 = .ok (.iadd, 1) := by decide +kernel
theorem dX12_isAtHome_21 : decode cX12_isAtHome 21 = .ok (.iaload, 1) := by decide +kernel
theorem dX12_isAtHome_22 : decode cX12_isAtHome 22 = .ok (.aload_n 0, 1) := by decide +kernel
theorem dX12_isAtHome_23 : decode cX12_isAtHome 23 = .ok (.getfield 9, 3) := by decide +kernel
theorem dX12_isAtHome_26 : decode cX12_isAtHome 26 = .ok (.iconst 1, 1) := by decide +kernel
theorem dX12_isAtHome_27 : decode cX12_isAtHome 27 = .ok (.iaload, 1) := by decide +kernel
theorem dX12_isAtHome_28 : decode cX12_isAtHome 28 = .ok (.if_icmp .eq 5, 3) := by decide +kernel
theorem dX12_isAtHome_31 : decode cX12_isAtHome 31 = .ok (.iconst 0, 1) := by decide +kernel
theorem dX12_isAtHome_32 : decode cX12_isAtHome 32 = .ok (.ireturn, 1) := by decide +kernel
theorem dX12_isAtHome_33 : decode cX12_isAtHome 33 = .ok (.iinc 1 1, 3) := by decide +kernel
theorem dX12_isAtHome_36 : decode cX12_isAtHome 36 = .ok (.goto (-34), 3) := by decide +kernel
theorem dX12_isAtHome_39 : decode cX12_isAtHome 39 = .ok (.iconst 0, 1) := by decide +kernel
theorem dX12_isAtHome_40 : decode cX12_isAtHome 40 = .ok (.istore_n 1, 1) := by decide +kernel
theorem dX12_isAtHome_41 : decode cX12_isAtHome 41 = .ok (.iload_n 1, 1) := by decide +kernel
theorem dX12_isAtHome_42 : decode cX12_isAtHome 42 = .ok (.bipush 6, 2) := by decide +kernel
theorem dX12_isAtHome_44 : decode cX12_isAtHome 44 = .ok (.if_icmp .ge 25, 3) := by decide +kernel
theorem dX12_isAtHome_47 : decode cX12_isAtHome 47 = .ok (.aload_n 0, 1) := by decide +kernel
theorem dX12_isAtHome_48 : decode cX12_isAtHome 48 = .ok (.getfield 9, 3) := by decide +kernel
theorem dX12_isAtHome_51 : decode cX12_isAtHome 51 = .ok (.sipush 292, 3) := by decide +kernel
theorem dX12_isAtHome_54 : decode cX12_isAtHome 54 = .ok (.iload_n 1, 1) := by decide +kernel
theorem dX12_isAtHome_55 : decode cX12_isAtHome 55 = .ok (.iadd, 1) := by decide +kernel
theorem dX12_isAtHome_56 : decode cX12_isAtHome 56 = .ok (.iaload, 1) := by decide +kernel
theorem dX12_isAtHome_57 : decode cX12_isAtHome 57 = .ok (.iconst (-1), 1) := by decide +kernel
theorem dX12_isAtHome_58 : decode cX12_isAtHome 58 = .ok (.if_icmp .eq 5, 3) := by decide +kernel
theorem dX12_isAtHome_61 : decode cX12_isAtHome 61 = .ok (.iconst 0, 1) := by decide +kernel
theorem dX12_isAtHome_62 : decode cX12_isAtHome 62 = .ok (.ireturn, 1) := by decide +kernel
theorem dX12_isAtHome_63 : decode cX12_isAtHome 63 = .ok (.iinc 1 1, 3) := by decide +kernel
theorem dX12_isAtHome_66 : decode cX12_isAtHome 66 = .ok (.goto (-25), 3) := by decide +kernel
theorem dX12_isAtHome_69 : decode cX12_isAtHome 69 = .ok (.aload_n 0, 1) := by decide +kernel
theorem dX12_isAtHome_70 : decode cX12_isAtHome 70 = .ok (.getfield 9, 3) := by decide +kernel
theorem dX12_isAtHome_73 : decode cX12_isAtHome 73 = .ok (.bipush 7, 2) := by decide +kernel
theorem dX12_isAtHome_75 : decode cX12_isAtHome 75 = .ok (.iaload, 1) := by decide +kernel
theorem dX12_isAtHome_76 : decode cX12_isAtHome 76 = .ok (.ifCond .ne 7, 3) := by decide +kernel
theorem dX12_isAtHome_79 : decode cX12_isAtHome 79 = .ok (.iconst 1, 1) := by decide +kernel
theorem dX12_isAtHome_80 : decode cX12_isAtHome 80 = .ok (.goto 4, 3) := by decide +kernel
theorem dX12_isAtHome_83 : decode cX12_isAtHome 83 = .ok (.iconst 0, 1) := by decide +kernel
theorem dX12_isAtHome_84 : decode cX12_isAtHome 84 = .ok (.ireturn, 1) := by decide +kernel
def xX12_isAtHome_41   : Nat → Int32 → j_M → Option (Int32 × j_M)
  | 0, _, _ => none
  | n + 1, l1, M => (if (nI 6) ≤ l1 then gd (nI 7) 7460 (oli (M 201 (ix (nI 7))) fun v1 => (if v1 = (0 : Int32) then some ((nI 1), M) else some ((nI 0), M))) else gd ((nI 292) + l1) 7460 (oli (M 201 (ix ((nI 292) + l1))) fun v2 => (if v2 = (-1 : Int32) then xX12_isAtHome_41  n (l1 + (nI 1)) M else some ((nI 0), M))))
set_option maxRecDepth 20000 in
set_option maxHeartbeats 2000000 in
theorem tX12_isAtHome_41    : ∀ (n : Nat) (l1 : Int32) (M : j_M), J (ρ := Int32 × j_M) yX12_isAtHome cX12_isAtHome 2 (some .boolean) 1 21 j_ei 41 [(0, .inr (17, 0, 200)), (1, .inl (l1))] [] M (xX12_isAtHome_41  n l1 M) := by
  intro n
  induction n with
  | zero => intros; exact J_none
  | succ n ih =>
    intro l1 M
    rw [xX12_isAtHome_41.eq_2]
    refine K_iload_n (q := 42) 1 dX12_isAtHome_41 rfl rfl rfl ?_
    refine K_bipush (q := 44) (v := nI 6) dX12_isAtHome_42 rfl rfl ?_
    refine K_icmp_ge (q := 47) (tgt := 69) dX12_isAtHome_44 rfl ?_ rfl ?_
    · refine K_aload_n (q := 70) 0 dX12_isAtHome_69 rfl rfl rfl ?_
      refine K_getR (q := 73) (ci := 7) (a2 := 201) 0 dX12_isAtHome_70 fRX12_9 rfl rfl (by decide) rfl rfl ?_
      refine K_bipush (q := 75) (v := nI 7) dX12_isAtHome_73 rfl rfl ?_
      refine K_iald (q := 76) dX12_isAtHome_75 rfl (fun v1 => ?_)
      refine K_if_ne (q := 79) (tgt := 83) dX12_isAtHome_76 rfl ?_ rfl ?_
      · refine K_iconst (q := 84) (v := nI 0) dX12_isAtHome_83 rfl rfl ?_
        exact J_zret dX12_isAtHome_84 (by decide)
      · refine K_iconst (q := 80) (v := nI 1) dX12_isAtHome_79 rfl rfl ?_
        refine J_goto (tgt := 84) dX12_isAtHome_80 rfl ?_
        exact J_zret dX12_isAtHome_84 (by decide)
    · refine K_aload_n (q := 48) 0 dX12_isAtHome_47 rfl rfl rfl ?_
      refine K_getR (q := 51) (ci := 7) (a2 := 201) 0 dX12_isAtHome_48 fRX12_9 rfl rfl (by decide) rfl rfl ?_
      refine K_sipush (q := 54) (v := nI 292) dX12_isAtHome_51 rfl rfl ?_
      refine K_iload_n (q := 55) 1 dX12_isAtHome_54 rfl rfl rfl ?_
      refine K_iadd (q := 56) dX12_isAtHome_55 rfl ?_
      refine K_iald (q := 57) dX12_isAtHome_56 rfl (fun v2 => ?_)
      refine K_iconst (q := 58) (v := -1) dX12_isAtHome_57 rfl rfl ?_
      refine K_icmp_eq (q := 61) (tgt := 63) dX12_isAtHome_58 rfl ?_ rfl ?_
      · refine K_iinc (q := 66) (v := l1 + (nI 1)) (ll' := [(1, .inl (l1 + (nI 1))), (0, .inr (17, 0, 200))]) 1 dX12_isAtHome_63 rfl rfl (by decide) rfl rfl ?_
        refine J_goto (tgt := 41) dX12_isAtHome_66 rfl ?_
        exact J_sub [1, 0] (ih (l1 + (nI 1)) M) rfl
      · refine K_iconst (q := 62) (v := nI 0) dX12_isAtHome_61 rfl rfl ?_
        exact J_zret dX12_isAtHome_62 (by decide)
def xX12_isAtHome_2   : Nat → Int32 → j_M → Option (Int32 × j_M)
  | 0, _, _ => none
  | n + 1, l1, M => (if (nI 8) ≤ l1 then xX12_isAtHome_41 fu (nI 0) M else obi (xX12_place (nI 6) l1 M) fun v2 M1 => gd ((nI 14) + v2) 7460 (oli (M1 201 (ix ((nI 14) + v2))) fun v3 => gd (nI 1) 7460 (oli (M1 201 (ix (nI 1))) fun v4 => (if v3 = v4 then xX12_isAtHome_2  n (l1 + (nI 1)) M1 else some ((nI 0), M1)))))
set_option maxRecDepth 20000 in
set_option maxHeartbeats 2000000 in
theorem tX12_isAtHome_2    : ∀ (n : Nat) (l1 : Int32) (M : j_M), J (ρ := Int32 × j_M) yX12_isAtHome cX12_isAtHome 2 (some .boolean) 1 21 j_ei 2 [(0, .inr (17, 0, 200)), (1, .inl (l1))] [] M (xX12_isAtHome_2  n l1 M) := by
  intro n
  induction n with
  | zero => intros; exact J_none
  | succ n ih =>
    intro l1 M
    rw [xX12_isAtHome_2.eq_2]
    refine K_iload_n (q := 3) 1 dX12_isAtHome_2 rfl rfl rfl ?_
    refine K_bipush (q := 5) (v := nI 8) dX12_isAtHome_3 rfl rfl ?_
    refine K_icmp_ge (q := 8) (tgt := 39) dX12_isAtHome_5 rfl ?_ rfl ?_
    · refine K_iconst (q := 40) (v := nI 0) dX12_isAtHome_39 rfl rfl ?_
      refine K_istore_n (q := 41) (ll' := [(1, .inl ((nI 0))), (0, .inr (17, 0, 200))]) dX12_isAtHome_40 rfl (by decide) rfl rfl ?_
      exact J_sub [1, 0] (tX12_isAtHome_41 fu (nI 0) M) rfl
    · refine K_aload_n (q := 9) 0 dX12_isAtHome_8 rfl rfl rfl ?_
      refine K_getR (q := 12) (ci := 7) (a2 := 201) 0 dX12_isAtHome_9 fRX12_9 rfl rfl (by decide) rfl rfl ?_
      refine K_bipush (q := 14) (v := nI 14) dX12_isAtHome_12 rfl rfl ?_
      refine K_bipush (q := 16) (v := nI 6) dX12_isAtHome_14 rfl rfl ?_
      refine K_iload_n (q := 17) 1 dX12_isAtHome_16 rfl rfl rfl ?_
      refine K_csi (q := 20) [.inl ((nI 6)), .inl (l1)] dX12_isAtHome_17 cb_X12_place cvRX12_61 rfl (Nat.le_of_ble_eq_true rfl) ⟨by decide, by decide⟩ (Nat.le_of_ble_eq_true rfl) rfl (tX12_place (nI 6) l1 M) rfl (fun v2 M1 => ?_)
      refine K_iadd (q := 21) dX12_isAtHome_20 rfl ?_
      refine K_iald (q := 22) dX12_isAtHome_21 rfl (fun v3 => ?_)
      refine K_aload_n (q := 23) 0 dX12_isAtHome_22 rfl rfl rfl ?_
      refine K_getR (q := 26) (ci := 7) (a2 := 201) 0 dX12_isAtHome_23 fRX12_9 rfl rfl (by decide) rfl rfl ?_
      refine K_iconst (q := 27) (v := nI 1) dX12_isAtHome_26 rfl rfl ?_
      refine K_iald (q := 28) dX12_isAtHome_27 rfl (fun v4 => ?_)
      refine K_icmp_eq (q := 31) (tgt := 33) dX12_isAtHome_28 rfl ?_ rfl ?_
      · refine K_iinc (q := 36) (v := l1 + (nI 1)) (ll' := [(1, .inl (l1 + (nI 1))), (0, .inr (17, 0, 200))]) 1 dX12_isAtHome_33 rfl rfl (by decide) rfl rfl ?_
        refine J_goto (tgt := 2) dX12_isAtHome_36 rfl ?_
        exact J_sub [1, 0] (ih (l1 + (nI 1)) M1) rfl
      · refine K_iconst (q := 32) (v := nI 0) dX12_isAtHome_31 rfl rfl ?_
        exact J_zret dX12_isAtHome_32 (by decide)
def xX12_isAtHome   (M : j_M) : Option (Int32 × j_M) := xX12_isAtHome_2 fu (nI 0) M
set_option maxRecDepth 20000 in
set_option maxHeartbeats 2000000 in
theorem tX12_isAtHome   (M : j_M) : J (ρ := Int32 × j_M) yX12_isAtHome cX12_isAtHome 2 (some .boolean) 1 21 j_ei 0 [(0, .inr (17, 0, 200))] [] M (xX12_isAtHome   M) := by
  unfold xX12_isAtHome
  refine K_iconst (q := 1) (v := nI 0) dX12_isAtHome_0 rfl rfl ?_
  refine K_istore_n (q := 2) (ll' := [(1, .inl ((nI 0))), (0, .inr (17, 0, 200))]) dX12_isAtHome_1 rfl (by decide) rfl rfl ?_
  exact J_sub [1, 0] (tX12_isAtHome_2 fu (nI 0) M) rfl
theorem dX12_set_0 : decode cX12_set 0 = .ok (.iload_n 1, 1) := by decide +kernel
theorem dX12_set_1 : decode cX12_set 1 = .ok (.tableswitch 202 0 4 #[35, 73, 135, 135, 135], 35) := by decide +kernel
theorem dX12_set_36 : decode cX12_set 36 = .ok (.iload_n 2, 1) := by decide +kernel
theorem dX12_set_37 : decode cX12_set 37 = .ok (.iconst 2, 1) := by decide +kernel
theorem dX12_set_38 : decode cX12_set 38 = .ok (.bipush 6, 2) := by decide +kernel
theorem dX12_set_40 : decode cX12_set 40 = .ok (.invokestatic 65, 3) := by decide +kernel
theorem dX12_set_43 : decode cX12_set 43 = .ok (.ifCond .eq 20, 3) := by decide +kernel
theorem dX12_set_46 : decode cX12_set 46 = .ok (.iload_n 2, 1) := by decide +kernel
theorem dX12_set_47 : decode cX12_set 47 = .ok (.aload_n 0, 1) := by decide +kernel
theorem dX12_set_48 : decode cX12_set 48 = .ok (.getfield 9, 3) := by decide +kernel
theorem dX12_set_51 : decode cX12_set 51 = .ok (.iconst 1, 1) := by decide +kernel
theorem dX12_set_52 : decode cX12_set 52 = .ok (.iaload, 1) := by decide +kernel
theorem dX12_set_53 : decode cX12_set 53 = .ok (.if_icmp .gt 10, 3) := by decide +kernel
theorem dX12_set_56 : decode cX12_set 56 = .ok (.aload_n 0, 1) := by decide +kernel
theorem dX12_set_57 : decode cX12_set 57 = .ok (.invokevirtual 75, 3) := by decide +kernel
theorem dX12_set_60 : decode cX12_set 60 = .ok (.ifCond .ne 5, 3) := by decide +kernel
theorem dX12_set_63 : decode cX12_set 63 = .ok (.iconst 0, 1) := by decide +kernel
theorem dX12_set_64 : decode cX12_set 64 = .ok (.ireturn, 1) := by decide +kernel
theorem dX12_set_65 : decode cX12_set 65 = .ok (.aload_n 0, 1) := by decide +kernel
theorem dX12_set_66 : decode cX12_set 66 = .ok (.getfield 9, 3) := by decide +kernel
theorem dX12_set_69 : decode cX12_set 69 = .ok (.iconst 0, 1) := by decide +kernel
theorem dX12_set_70 : decode cX12_set 70 = .ok (.iload_n 2, 1) := by decide +kernel
theorem dX12_set_71 : decode cX12_set 71 = .ok (.iastore, 1) := by decide +kernel
theorem dX12_set_72 : decode cX12_set 72 = .ok (.iconst 1, 1) := by decide +kernel
theorem dX12_set_73 : decode cX12_set 73 = .ok (.ireturn, 1) := by decide +kernel
theorem dX12_set_74 : decode cX12_set 74 = .ok (.iload_n 2, 1) := by decide +kernel
theorem dX12_set_75 : decode cX12_set 75 = .ok (.aload_n 0, 1) := by decide +kernel
theorem dX12_set_76 : decode cX12_set 76 = .ok (.getfield 9, 3) := by decide +kernel
theorem dX12_set_79 : decode cX12_set 79 = .ok (.iconst 0, 1) := by decide +kernel
theorem dX12_set_80 : decode cX12_set 80 = .ok (.iaload, 1) := by decide +kernel
theorem dX12_set_81 : decode cX12_set 81 = .ok (.bipush 12, 2) := by decide +kernel
theorem dX12_set_83 : decode cX12_set 83 = .ok (.invokestatic 65, 3) := by decide +kernel
theorem dX12_set_86 : decode cX12_set 86 = .ok (.ifCond .eq 10, 3) := by decide +kernel
theorem dX12_set_89 : decode cX12_set 89 = .ok (.aload_n 0, 1) := by decide +kernel
theorem dX12_set_90 : decode cX12_set 90 = .ok (.invokevirtual 75, 3) := by decide +kernel
theorem dX12_set_93 : decode cX12_set 93 = .ok (.ifCond .ne 5, 3) := by decide +kernel
theorem dX12_set_96 : decode cX12_set 96 = .ok (.iconst 0, 1) := by decide +kernel
theorem dX12_set_97 : decode cX12_set 97 = .ok (.ireturn, 1) := by decide +kernel
theorem dX12_set_98 : decode cX12_set 98 = .ok (.aload_n 0, 1) := by decide +kernel
theorem dX12_set_99 : decode cX12_set 99 = .ok (.getfield 9, 3) := by decide +kernel
theorem dX12_set_102 : decode cX12_set 102 = .ok (.iconst 1, 1) := by decide +kernel
theorem dX12_set_103 : decode cX12_set 103 = .ok (.iload_n 2, 1) := by decide +kernel
theorem dX12_set_104 : decode cX12_set 104 = .ok (.iastore, 1) := by decide +kernel
theorem dX12_set_105 : decode cX12_set 105 = .ok (.iconst 0, 1) := by decide +kernel
theorem dX12_set_106 : decode cX12_set 106 = .ok (.istore_n 3, 1) := by decide +kernel
theorem dX12_set_107 : decode cX12_set 107 = .ok (.iload_n 3, 1) := by decide +kernel
theorem dX12_set_108 : decode cX12_set 108 = .ok (.bipush 8, 2) := by decide +kernel
theorem dX12_set_110 : decode cX12_set 110 = .ok (.if_icmp .ge 24, 3) := by decide +kernel
theorem dX12_set_113 : decode cX12_set 113 = .ok (.aload_n 0, 1) := by decide +kernel
theorem dX12_set_114 : decode cX12_set 114 = .ok (.getfield 9, 3) := by decide +kernel
theorem dX12_set_117 : decode cX12_set 117 = .ok (.bipush 14, 2) := by decide +kernel
theorem dX12_set_119 : decode cX12_set 119 = .ok (.bipush 6, 2) := by decide +kernel
theorem dX12_set_121 : decode cX12_set 121 = .ok (.iload_n 3, 1) := by decide +kernel
theorem dX12_set_122 : decode cX12_set 122 = .ok (.invokestatic 61, 3) := by decide +kernel
theorem dX12_set_125 : decode cX12_set 125 = .ok (.iadd, 1) := by decide +kernel
theorem dX12_set_126 : decode cX12_set 126 = .ok (.iload_n 2, 1) := by decide +kernel
theorem dX12_set_127 : decode cX12_set 127 = .ok (.iastore, 1) := by decide +kernel
theorem dX12_set_128 : decode cX12_set 128 = .ok (.iinc 3 1, 3) := by decide +kernel
theorem dX12_set_131 : decode cX12_set 131 = .ok (.goto (-24), 3) := by decide +kernel
theorem dX12_set_134 : decode cX12_set 134 = .ok (.iconst 1, 1) := by decide +kernel
theorem dX12_set_135 : decode cX12_set 135 = .ok (.ireturn, 1) := by decide +kernel
theorem dX12_set_136 : decode cX12_set 136 = .ok (.iload_n 2, 1) := by decide +kernel
theorem dX12_set_137 : decode cX12_set 137 = .ok (.iload_n 1, 1) := by decide +kernel
theorem dX12_set_138 : decode cX12_set 138 = .ok (.iconst 3, 1) := by decide +kernel
theorem dX12_set_139 : decode cX12_set 139 = .ok (.if_icmp .ne 7, 3) := by decide +kernel
theorem dX12_set_142 : decode cX12_set 142 = .ok (.iconst 0, 1) := by decide +kernel
theorem dX12_set_143 : decode cX12_set 143 = .ok (.goto 4, 3) := by decide +kernel
theorem dX12_set_146 : decode cX12_set 146 = .ok (.iconst 1, 1) := by decide +kernel
theorem dX12_set_147 : decode cX12_set 147 = .ok (.iload_n 1, 1) := by decide +kernel
theorem dX12_set_148 : decode cX12_set 148 = .ok (.iconst 2, 1) := by decide +kernel
theorem dX12_set_149 : decode cX12_set 149 = .ok (.if_icmp .ne 8, 3) := by decide +kernel
theorem dX12_set_152 : decode cX12_set 152 = .ok (.bipush 8, 2) := by decide +kernel
theorem dX12_set_154 : decode cX12_set 154 = .ok (.goto 14, 3) := by decide +kernel
theorem dX12_set_157 : decode cX12_set 157 = .ok (.iload_n 1, 1) := by decide +kernel
theorem dX12_set_158 : decode cX12_set 158 = .ok (.iconst 3, 1) := by decide +kernel
theorem dX12_set_159 : decode cX12_set 159 = .ok (.if_icmp .ne 7, 3) := by decide +kernel
theorem dX12_set_162 : decode cX12_set 162 = .ok (.iconst 3, 1) := by decide +kernel
theorem dX12_set_163 : decode cX12_set 163 = .ok (.goto 5, 3) := by decide +kernel
theorem dX12_set_166 : decode cX12_set 166 = .ok (.bipush 20, 2) := by decide +kernel
theorem dX12_set_168 : decode cX12_set 168 = .ok (.invokestatic 65, 3) := by decide +kernel
theorem dX12_set_171 : decode cX12_set 171 = .ok (.ifCond .ne 5, 3) := by decide +kernel
theorem dX12_set_174 : decode cX12_set 174 = .ok (.iconst 0, 1) := by decide +kernel
theorem dX12_set_175 : decode cX12_set 175 = .ok (.ireturn, 1) := by decide +kernel
theorem dX12_set_176 : decode cX12_set 176 = .ok (.aload_n 0, 1) := by decide +kernel
theorem dX12_set_177 : decode cX12_set 177 = .ok (.getfield 9, 3) := by decide +kernel
theorem dX12_set_180 : decode cX12_set 180 = .ok (.iload_n 1, 1) := by decide +kernel
theorem dX12_set_181 : decode cX12_set 181 = .ok (.iconst 2, 1) := by decide +kernel
theorem dX12_set_182 : decode cX12_set 182 = .ok (.if_icmp .ne 7, 3) := by decide +kernel
theorem dX12_set_185 : decode cX12_set 185 = .ok (.iconst 2, 1) := by decide +kernel
theorem dX12_set_186 : decode cX12_set 186 = .ok (.goto 13, 3) := by decide +kernel
theorem dX12_set_189 : decode cX12_set 189 = .ok (.iload_n 1, 1) := by decide +kernel
theorem dX12_set_190 : decode cX12_set 190 = .ok (.iconst 3, 1) := by decide +kernel
theorem dX12_set_191 : decode cX12_set 191 = .ok (.if_icmp .ne 7, 3) := by decide +kernel
theorem dX12_set_194 : decode cX12_set 194 = .ok (.iconst 3, 1) := by decide +kernel
theorem dX12_set_195 : decode cX12_set 195 = .ok (.goto 4, 3) := by decide +kernel
theorem dX12_set_198 : decode cX12_set 198 = .ok (.iconst 4, 1) := by decide +kernel
theorem dX12_set_199 : decode cX12_set 199 = .ok (.iload_n 2, 1) := by decide +kernel
theorem dX12_set_200 : decode cX12_set 200 = .ok (.iastore, 1) := by decide +kernel
theorem dX12_set_201 : decode cX12_set 201 = .ok (.iconst 1, 1) := by decide +kernel
theorem dX12_set_202 : decode cX12_set 202 = .ok (.ireturn, 1) := by decide +kernel
theorem dX12_set_203 : decode cX12_set 203 = .ok (.iconst 0, 1) := by decide +kernel
theorem dX12_set_204 : decode cX12_set 204 = .ok (.ireturn, 1) := by decide +kernel
def xX12_set_199   (l2 : Int32) (s0 : Int32) (M : j_M) : Option (Int32 × j_M) := gd s0 7460 (oml (mw M 201 (ix s0) l2) fun M1 => some ((nI 1), M1))
set_option maxRecDepth 20000 in
set_option maxHeartbeats 2000000 in
theorem tX12_set_199    (l2 : Int32) (s0 : Int32) (M : j_M) : J (ρ := Int32 × j_M) yX12_set cX12_set 4 (some .boolean) 2 42 j_ei 199 [(2, .inl (l2))] [.inl (s0), .inr (1, 7460, 201)] M (xX12_set_199  l2 s0 M) := by
  unfold xX12_set_199
  refine K_iload_n (q := 200) 0 dX12_set_199 rfl rfl rfl ?_
  refine K_iast (q := 201) dX12_set_200 rfl (fun M1 => ?_)
  refine K_iconst (q := 202) (v := nI 1) dX12_set_201 rfl rfl ?_
  exact J_zret dX12_set_202 (by decide)
def xX12_set_168   (l1 : Int32) (l2 : Int32) (s2 : Int32) (s1 : Int32) (s0 : Int32) (M : j_M) : Option (Int32 × j_M) := obi (xX12_isIn s2 s1 s0 M) fun v2 M1 => (if v2 = (0 : Int32) then some ((nI 0), M1) else (if l1 = (nI 2) then xX12_set_199  l2 (nI 2) M1 else (if l1 = (nI 3) then xX12_set_199  l2 (nI 3) M1 else xX12_set_199  l2 (nI 4) M1)))
set_option maxRecDepth 20000 in
set_option maxHeartbeats 2000000 in
theorem tX12_set_168    (l1 : Int32) (l2 : Int32) (s2 : Int32) (s1 : Int32) (s0 : Int32) (M : j_M) : J (ρ := Int32 × j_M) yX12_set cX12_set 4 (some .boolean) 2 42 j_ei 168 [(0, .inr (17, 0, 200)), (1, .inl (l1)), (2, .inl (l2))] [.inl (s0), .inl (s1), .inl (s2)] M (xX12_set_168  l1 l2 s2 s1 s0 M) := by
  unfold xX12_set_168
  refine K_csi (q := 171) [.inl (s2), .inl (s1), .inl (s0)] dX12_set_168 cb_X12_isIn cvRX12_65 rfl (Nat.le_of_ble_eq_true rfl) ⟨by decide, by decide⟩ (Nat.le_of_ble_eq_true rfl) rfl (tX12_isIn s2 s1 s0 M) rfl (fun v2 M1 => ?_)
  refine K_if_ne (q := 174) (tgt := 176) dX12_set_171 rfl ?_ rfl ?_
  · refine K_aload_n (q := 177) 0 dX12_set_176 rfl rfl rfl ?_
    refine K_getR (q := 180) (ci := 7) (a2 := 201) 0 dX12_set_177 fRX12_9 rfl rfl (by decide) rfl rfl ?_
    refine K_iload_n (q := 181) 1 dX12_set_180 rfl rfl rfl ?_
    refine K_iconst (q := 182) (v := nI 2) dX12_set_181 rfl rfl ?_
    refine K_icmp_ne (q := 185) (tgt := 189) dX12_set_182 rfl ?_ rfl ?_
    · refine K_iload_n (q := 190) 1 dX12_set_189 rfl rfl rfl ?_
      refine K_iconst (q := 191) (v := nI 3) dX12_set_190 rfl rfl ?_
      refine K_icmp_ne (q := 194) (tgt := 198) dX12_set_191 rfl ?_ rfl ?_
      · refine K_iconst (q := 199) (v := nI 4) dX12_set_198 rfl rfl ?_
        exact J_sub [2] (tX12_set_199  l2 (nI 4) M1) rfl
      · refine K_iconst (q := 195) (v := nI 3) dX12_set_194 rfl rfl ?_
        refine J_goto (tgt := 199) dX12_set_195 rfl ?_
        exact J_sub [2] (tX12_set_199  l2 (nI 3) M1) rfl
    · refine K_iconst (q := 186) (v := nI 2) dX12_set_185 rfl rfl ?_
      refine J_goto (tgt := 199) dX12_set_186 rfl ?_
      exact J_sub [2] (tX12_set_199  l2 (nI 2) M1) rfl
  · refine K_iconst (q := 175) (v := nI 0) dX12_set_174 rfl rfl ?_
    exact J_zret dX12_set_175 (by decide)
def xX12_set_147   (l1 : Int32) (l2 : Int32) (s1 : Int32) (s0 : Int32) (M : j_M) : Option (Int32 × j_M) := (if l1 = (nI 2) then xX12_set_168  l1 l2 s1 s0 (nI 8) M else (if l1 = (nI 3) then xX12_set_168  l1 l2 s1 s0 (nI 3) M else xX12_set_168  l1 l2 s1 s0 (nI 20) M))
set_option maxRecDepth 20000 in
set_option maxHeartbeats 2000000 in
theorem tX12_set_147    (l1 : Int32) (l2 : Int32) (s1 : Int32) (s0 : Int32) (M : j_M) : J (ρ := Int32 × j_M) yX12_set cX12_set 4 (some .boolean) 2 42 j_ei 147 [(0, .inr (17, 0, 200)), (1, .inl (l1)), (2, .inl (l2))] [.inl (s0), .inl (s1)] M (xX12_set_147  l1 l2 s1 s0 M) := by
  unfold xX12_set_147
  refine K_iload_n (q := 148) 1 dX12_set_147 rfl rfl rfl ?_
  refine K_iconst (q := 149) (v := nI 2) dX12_set_148 rfl rfl ?_
  refine K_icmp_ne (q := 152) (tgt := 157) dX12_set_149 rfl ?_ rfl ?_
  · refine K_iload_n (q := 158) 1 dX12_set_157 rfl rfl rfl ?_
    refine K_iconst (q := 159) (v := nI 3) dX12_set_158 rfl rfl ?_
    refine K_icmp_ne (q := 162) (tgt := 166) dX12_set_159 rfl ?_ rfl ?_
    · refine K_bipush (q := 168) (v := nI 20) dX12_set_166 rfl rfl ?_
      exact J_sub [0, 1, 2] (tX12_set_168  l1 l2 s1 s0 (nI 20) M) rfl
    · refine K_iconst (q := 163) (v := nI 3) dX12_set_162 rfl rfl ?_
      refine J_goto (tgt := 168) dX12_set_163 rfl ?_
      exact J_sub [0, 1, 2] (tX12_set_168  l1 l2 s1 s0 (nI 3) M) rfl
  · refine K_bipush (q := 154) (v := nI 8) dX12_set_152 rfl rfl ?_
    refine J_goto (tgt := 168) dX12_set_154 rfl ?_
    exact J_sub [0, 1, 2] (tX12_set_168  l1 l2 s1 s0 (nI 8) M) rfl
def xX12_set_107   : Nat → Int32 → Int32 → j_M → Option (Int32 × j_M)
  | 0, _, _, _ => none
  | n + 1, l2, l3, M => (if (nI 8) ≤ l3 then some ((nI 1), M) else obi (xX12_place (nI 6) l3 M) fun v2 M1 => gd ((nI 14) + v2) 7460 (oml (mw M1 201 (ix ((nI 14) + v2)) l2) fun M3 => xX12_set_107  n l2 (l3 + (nI 1)) M3))
set_option maxRecDepth 20000 in
set_option maxHeartbeats 2000000 in
theorem tX12_set_107    : ∀ (n : Nat) (l2 : Int32) (l3 : Int32) (M : j_M), J (ρ := Int32 × j_M) yX12_set cX12_set 4 (some .boolean) 2 42 j_ei 107 [(0, .inr (17, 0, 200)), (2, .inl (l2)), (3, .inl (l3))] [] M (xX12_set_107  n l2 l3 M) := by
  intro n
  induction n with
  | zero => intros; exact J_none
  | succ n ih =>
    intro l2 l3 M
    rw [xX12_set_107.eq_2]
    refine K_iload_n (q := 108) 2 dX12_set_107 rfl rfl rfl ?_
    refine K_bipush (q := 110) (v := nI 8) dX12_set_108 rfl rfl ?_
    refine K_icmp_ge (q := 113) (tgt := 134) dX12_set_110 rfl ?_ rfl ?_
    · refine K_iconst (q := 135) (v := nI 1) dX12_set_134 rfl rfl ?_
      exact J_zret dX12_set_135 (by decide)
    · refine K_aload_n (q := 114) 0 dX12_set_113 rfl rfl rfl ?_
      refine K_getR (q := 117) (ci := 7) (a2 := 201) 0 dX12_set_114 fRX12_9 rfl rfl (by decide) rfl rfl ?_
      refine K_bipush (q := 119) (v := nI 14) dX12_set_117 rfl rfl ?_
      refine K_bipush (q := 121) (v := nI 6) dX12_set_119 rfl rfl ?_
      refine K_iload_n (q := 122) 2 dX12_set_121 rfl rfl rfl ?_
      refine K_csi (q := 125) [.inl ((nI 6)), .inl (l3)] dX12_set_122 cb_X12_place cvRX12_61 rfl (Nat.le_of_ble_eq_true rfl) ⟨by decide, by decide⟩ (Nat.le_of_ble_eq_true rfl) rfl (tX12_place (nI 6) l3 M) rfl (fun v2 M1 => ?_)
      refine K_iadd (q := 126) dX12_set_125 rfl ?_
      refine K_iload_n (q := 127) 1 dX12_set_126 rfl rfl rfl ?_
      refine K_iast (q := 128) dX12_set_127 rfl (fun M3 => ?_)
      refine K_iinc (q := 131) (v := l3 + (nI 1)) (ll' := [(3, .inl (l3 + (nI 1))), (0, .inr (17, 0, 200)), (2, .inl (l2))]) 2 dX12_set_128 rfl rfl (by decide) rfl rfl ?_
      refine J_goto (tgt := 107) dX12_set_131 rfl ?_
      exact J_sub [1, 2, 0] (ih l2 (l3 + (nI 1)) M3) rfl
def xX12_set  (l1 : Int32) (l2 : Int32) (M : j_M) : Option (Int32 × j_M) := osw l1 [((nI 0), obi (xX12_isIn l2 (nI 2) (nI 6) M) fun v2 M1 => (if v2 = (0 : Int32) then some ((nI 0), M1) else gd (nI 1) 7460 (oli (M1 201 (ix (nI 1))) fun v3 => (if v3 < l2 then some ((nI 0), M1) else obi (xX12_isAtHome M1) fun v5 M4 => (if v5 = (0 : Int32) then some ((nI 0), M4) else gd (nI 0) 7460 (oml (mw M4 201 (ix (nI 0)) l2) fun M6 => some ((nI 1), M6))))))), ((nI 1), gd (nI 0) 7460 (oli (M 201 (ix (nI 0))) fun v7 => obi (xX12_isIn l2 v7 (nI 12) M) fun v9 M8 => (if v9 = (0 : Int32) then some ((nI 0), M8) else obi (xX12_isAtHome M8) fun v11 M10 => (if v11 = (0 : Int32) then some ((nI 0), M10) else gd (nI 1) 7460 (oml (mw M10 201 (ix (nI 1)) l2) fun M12 => xX12_set_107 fu l2 (nI 0) M12))))), ((nI 2), (if l1 = (nI 3) then xX12_set_147  l1 l2 l2 (nI 0) M else xX12_set_147  l1 l2 l2 (nI 1) M)), ((nI 3), (if l1 = (nI 3) then xX12_set_147  l1 l2 l2 (nI 0) M else xX12_set_147  l1 l2 l2 (nI 1) M)), ((nI 4), (if l1 = (nI 3) then xX12_set_147  l1 l2 l2 (nI 0) M else xX12_set_147  l1 l2 l2 (nI 1) M))] (some ((nI 0), M))
set_option maxRecDepth 20000 in
set_option maxHeartbeats 2000000 in
theorem tX12_set  (l1 : Int32) (l2 : Int32) (M : j_M) : J (ρ := Int32 × j_M) yX12_set cX12_set 4 (some .boolean) 2 42 j_ei 0 [(0, .inr (17, 0, 200)), (1, .inl (l1)), (2, .inl (l2))] [] M (xX12_set  l1 l2 M) := by
  unfold xX12_set
  refine K_iload_n (q := 1) 1 dX12_set_0 rfl rfl rfl ?_
  refine K_tsw (dt := 203) [36, 74, 136, 136, 136] dX12_set_1 rfl rfl rfl rfl ⟨?_, ?_, ?_, ?_, ?_, trivial⟩ ?_
  · refine K_iload_n (q := 37) 2 dX12_set_36 rfl rfl rfl ?_
    refine K_iconst (q := 38) (v := nI 2) dX12_set_37 rfl rfl ?_
    refine K_bipush (q := 40) (v := nI 6) dX12_set_38 rfl rfl ?_
    refine K_csi (q := 43) [.inl (l2), .inl ((nI 2)), .inl ((nI 6))] dX12_set_40 cb_X12_isIn cvRX12_65 rfl (Nat.le_of_ble_eq_true rfl) ⟨by decide, by decide⟩ (Nat.le_of_ble_eq_true rfl) rfl (tX12_isIn l2 (nI 2) (nI 6) M) rfl (fun v2 M1 => ?_)
    refine K_if_eq (q := 46) (tgt := 63) dX12_set_43 rfl ?_ rfl ?_
    · refine K_iconst (q := 64) (v := nI 0) dX12_set_63 rfl rfl ?_
      exact J_zret dX12_set_64 (by decide)
    · refine K_iload_n (q := 47) 2 dX12_set_46 rfl rfl rfl ?_
      refine K_aload_n (q := 48) 0 dX12_set_47 rfl rfl rfl ?_
      refine K_getR (q := 51) (ci := 7) (a2 := 201) 0 dX12_set_48 fRX12_9 rfl rfl (by decide) rfl rfl ?_
      refine K_iconst (q := 52) (v := nI 1) dX12_set_51 rfl rfl ?_
      refine K_iald (q := 53) dX12_set_52 rfl (fun v3 => ?_)
      refine K_icmp_gt (q := 56) (tgt := 63) dX12_set_53 rfl ?_ rfl ?_
      · refine K_iconst (q := 64) (v := nI 0) dX12_set_63 rfl rfl ?_
        exact J_zret dX12_set_64 (by decide)
      · refine K_aload_n (q := 57) 0 dX12_set_56 rfl rfl rfl ?_
        refine K_cvi (q := 60) [] dX12_set_57 cb_X12_isAtHome cvRX12_75 rc_7 (show (17 : Nat) ≠ 0 by decide) rfl (Nat.le_of_ble_eq_true rfl) ⟨by decide, by decide⟩ (Nat.le_of_ble_eq_true rfl) rfl (tX12_isAtHome M1) rfl (fun v5 M4 => ?_)
        refine K_if_ne (q := 63) (tgt := 65) dX12_set_60 rfl ?_ rfl ?_
        · refine K_aload_n (q := 66) 0 dX12_set_65 rfl rfl rfl ?_
          refine K_getR (q := 69) (ci := 7) (a2 := 201) 0 dX12_set_66 fRX12_9 rfl rfl (by decide) rfl rfl ?_
          refine K_iconst (q := 70) (v := nI 0) dX12_set_69 rfl rfl ?_
          refine K_iload_n (q := 71) 2 dX12_set_70 rfl rfl rfl ?_
          refine K_iast (q := 72) dX12_set_71 rfl (fun M6 => ?_)
          refine K_iconst (q := 73) (v := nI 1) dX12_set_72 rfl rfl ?_
          exact J_zret dX12_set_73 (by decide)
        · refine K_iconst (q := 64) (v := nI 0) dX12_set_63 rfl rfl ?_
          exact J_zret dX12_set_64 (by decide)
  · refine K_iload_n (q := 75) 2 dX12_set_74 rfl rfl rfl ?_
    refine K_aload_n (q := 76) 0 dX12_set_75 rfl rfl rfl ?_
    refine K_getR (q := 79) (ci := 7) (a2 := 201) 0 dX12_set_76 fRX12_9 rfl rfl (by decide) rfl rfl ?_
    refine K_iconst (q := 80) (v := nI 0) dX12_set_79 rfl rfl ?_
    refine K_iald (q := 81) dX12_set_80 rfl (fun v7 => ?_)
    refine K_bipush (q := 83) (v := nI 12) dX12_set_81 rfl rfl ?_
    refine K_csi (q := 86) [.inl (l2), .inl (v7), .inl ((nI 12))] dX12_set_83 cb_X12_isIn cvRX12_65 rfl (Nat.le_of_ble_eq_true rfl) ⟨by decide, by decide⟩ (Nat.le_of_ble_eq_true rfl) rfl (tX12_isIn l2 v7 (nI 12) M) rfl (fun v9 M8 => ?_)
    refine K_if_eq (q := 89) (tgt := 96) dX12_set_86 rfl ?_ rfl ?_
    · refine K_iconst (q := 97) (v := nI 0) dX12_set_96 rfl rfl ?_
      exact J_zret dX12_set_97 (by decide)
    · refine K_aload_n (q := 90) 0 dX12_set_89 rfl rfl rfl ?_
      refine K_cvi (q := 93) [] dX12_set_90 cb_X12_isAtHome cvRX12_75 rc_7 (show (17 : Nat) ≠ 0 by decide) rfl (Nat.le_of_ble_eq_true rfl) ⟨by decide, by decide⟩ (Nat.le_of_ble_eq_true rfl) rfl (tX12_isAtHome M8) rfl (fun v11 M10 => ?_)
      refine K_if_ne (q := 96) (tgt := 98) dX12_set_93 rfl ?_ rfl ?_
      · refine K_aload_n (q := 99) 0 dX12_set_98 rfl rfl rfl ?_
        refine K_getR (q := 102) (ci := 7) (a2 := 201) 0 dX12_set_99 fRX12_9 rfl rfl (by decide) rfl rfl ?_
        refine K_iconst (q := 103) (v := nI 1) dX12_set_102 rfl rfl ?_
        refine K_iload_n (q := 104) 2 dX12_set_103 rfl rfl rfl ?_
        refine K_iast (q := 105) dX12_set_104 rfl (fun M12 => ?_)
        refine K_iconst (q := 106) (v := nI 0) dX12_set_105 rfl rfl ?_
        refine K_istore_n (q := 107) (ll' := [(3, .inl ((nI 0))), (0, .inr (17, 0, 200)), (1, .inl (l1)), (2, .inl (l2))]) dX12_set_106 rfl (by decide) rfl rfl ?_
        exact J_sub [1, 3, 0] (tX12_set_107 fu l2 (nI 0) M12) rfl
      · refine K_iconst (q := 97) (v := nI 0) dX12_set_96 rfl rfl ?_
        exact J_zret dX12_set_97 (by decide)
  · refine K_iload_n (q := 137) 2 dX12_set_136 rfl rfl rfl ?_
    refine K_iload_n (q := 138) 1 dX12_set_137 rfl rfl rfl ?_
    refine K_iconst (q := 139) (v := nI 3) dX12_set_138 rfl rfl ?_
    refine K_icmp_ne (q := 142) (tgt := 146) dX12_set_139 rfl ?_ rfl ?_
    · refine K_iconst (q := 147) (v := nI 1) dX12_set_146 rfl rfl ?_
      exact J_sub [0, 1, 2] (tX12_set_147  l1 l2 l2 (nI 1) M) rfl
    · refine K_iconst (q := 143) (v := nI 0) dX12_set_142 rfl rfl ?_
      refine J_goto (tgt := 147) dX12_set_143 rfl ?_
      exact J_sub [0, 1, 2] (tX12_set_147  l1 l2 l2 (nI 0) M) rfl
  · refine K_iload_n (q := 137) 2 dX12_set_136 rfl rfl rfl ?_
    refine K_iload_n (q := 138) 1 dX12_set_137 rfl rfl rfl ?_
    refine K_iconst (q := 139) (v := nI 3) dX12_set_138 rfl rfl ?_
    refine K_icmp_ne (q := 142) (tgt := 146) dX12_set_139 rfl ?_ rfl ?_
    · refine K_iconst (q := 147) (v := nI 1) dX12_set_146 rfl rfl ?_
      exact J_sub [0, 1, 2] (tX12_set_147  l1 l2 l2 (nI 1) M) rfl
    · refine K_iconst (q := 143) (v := nI 0) dX12_set_142 rfl rfl ?_
      refine J_goto (tgt := 147) dX12_set_143 rfl ?_
      exact J_sub [0, 1, 2] (tX12_set_147  l1 l2 l2 (nI 0) M) rfl
  · refine K_iload_n (q := 137) 2 dX12_set_136 rfl rfl rfl ?_
    refine K_iload_n (q := 138) 1 dX12_set_137 rfl rfl rfl ?_
    refine K_iconst (q := 139) (v := nI 3) dX12_set_138 rfl rfl ?_
    refine K_icmp_ne (q := 142) (tgt := 146) dX12_set_139 rfl ?_ rfl ?_
    · refine K_iconst (q := 147) (v := nI 1) dX12_set_146 rfl rfl ?_
      exact J_sub [0, 1, 2] (tX12_set_147  l1 l2 l2 (nI 1) M) rfl
    · refine K_iconst (q := 143) (v := nI 0) dX12_set_142 rfl rfl ?_
      refine J_goto (tgt := 147) dX12_set_143 rfl ?_
      exact J_sub [0, 1, 2] (tX12_set_147  l1 l2 l2 (nI 0) M) rfl
  · refine K_iconst (q := 204) (v := nI 0) dX12_set_203 rfl rfl ?_
    exact J_zret dX12_set_204 (by decide)
theorem dX12_store_0 : decode cX12_store 0 = .ok (.aload_n 0, 1) := by decide +kernel
theorem dX12_store_1 : decode cX12_store 1 = .ok (.iload_n 1, 1) := by decide +kernel
theorem dX12_store_2 : decode cX12_store 2 = .ok (.iload_n 2, 1) := by decide +kernel
theorem dX12_store_3 : decode cX12_store 3 = .ok (.iload_n 3, 1) := by decide +kernel
theorem dX12_store_4 : decode cX12_store 4 = .ok (.invokevirtual 149, 3) := by decide +kernel
theorem dX12_store_7 : decode cX12_store 7 = .ok (.ifCond .eq 22, 3) := by decide +kernel
theorem dX12_store_10 : decode cX12_store 10 = .ok (.aload_n 0, 1) := by decide +kernel
theorem dX12_store_11 : decode cX12_store 11 = .ok (.iload_n 1, 1) := by decide +kernel
theorem dX12_store_12 : decode cX12_store 12 = .ok (.iload_n 2, 1) := by decide +kernel
theorem dX12_store_13 : decode cX12_store 13 = .ok (.iconst 2, 1) := by decide +kernel
theorem dX12_store_14 : decode cX12_store 14 = .ok (.iload_n 3, 1) := by decide +kernel
theorem dX12_store_15 : decode cX12_store 15 = .ok (.invokevirtual 152, 3) := by decide +kernel
theorem dX12_store_18 : decode cX12_store 18 = .ok (.ifCond .eq 7, 3) := by decide +kernel
theorem dX12_store_21 : decode cX12_store 21 = .ok (.iconst 1, 1) := by decide +kernel
theorem dX12_store_22 : decode cX12_store 22 = .ok (.goto 8, 3) := by decide +kernel
theorem dX12_store_25 : decode cX12_store 25 = .ok (.iconst 0, 1) := by decide +kernel
theorem dX12_store_26 : decode cX12_store 26 = .ok (.goto 4, 3) := by decide +kernel
theorem dX12_store_29 : decode cX12_store 29 = .ok (.iconst (-1), 1) := by decide +kernel
theorem dX12_store_30 : decode cX12_store 30 = .ok (.ireturn, 1) := by decide +kernel
def xX12_store  (l1 : Int32) (l2 : Int32) (l3 : Int32) (M : j_M) : Option (Int32 × j_M) := obi (xX12_can l1 l2 l3 M) fun v2 M1 => (if v2 = (0 : Int32) then some ((-1 : Int32), M1) else obi (xX12_begins l1 l2 (nI 2) l3 M1) fun v4 M3 => (if v4 = (0 : Int32) then some ((nI 0), M3) else some ((nI 1), M3)))
set_option maxRecDepth 20000 in
set_option maxHeartbeats 2000000 in
theorem tX12_store  (l1 : Int32) (l2 : Int32) (l3 : Int32) (M : j_M) : J (ρ := Int32 × j_M) yX12_store cX12_store 4 (some .int) 6 139 j_ei 0 [(0, .inr (17, 0, 200)), (1, .inl (l1)), (2, .inl (l2)), (3, .inl (l3))] [] M (xX12_store  l1 l2 l3 M) := by
  unfold xX12_store
  refine K_aload_n (q := 1) 0 dX12_store_0 rfl rfl rfl ?_
  refine K_iload_n (q := 2) 1 dX12_store_1 rfl rfl rfl ?_
  refine K_iload_n (q := 3) 2 dX12_store_2 rfl rfl rfl ?_
  refine K_iload_n (q := 4) 3 dX12_store_3 rfl rfl rfl ?_
  refine K_cvi (q := 7) [.inl (l1), .inl (l2), .inl (l3)] dX12_store_4 cb_X12_can cvRX12_149 rc_7 (show (17 : Nat) ≠ 0 by decide) rfl (Nat.le_of_ble_eq_true rfl) ⟨by decide, by decide⟩ (Nat.le_of_ble_eq_true rfl) rfl (tX12_can l1 l2 l3 M) rfl (fun v2 M1 => ?_)
  refine K_if_eq (q := 10) (tgt := 29) dX12_store_7 rfl ?_ rfl ?_
  · refine K_iconst (q := 30) (v := -1) dX12_store_29 rfl rfl ?_
    exact J_iret dX12_store_30
  · refine K_aload_n (q := 11) 0 dX12_store_10 rfl rfl rfl ?_
    refine K_iload_n (q := 12) 1 dX12_store_11 rfl rfl rfl ?_
    refine K_iload_n (q := 13) 2 dX12_store_12 rfl rfl rfl ?_
    refine K_iconst (q := 14) (v := nI 2) dX12_store_13 rfl rfl ?_
    refine K_iload_n (q := 15) 3 dX12_store_14 rfl rfl rfl ?_
    refine K_cvi (q := 18) [.inl (l1), .inl (l2), .inl ((nI 2)), .inl (l3)] dX12_store_15 cb_X12_begins cvRX12_152 rc_7 (show (17 : Nat) ≠ 0 by decide) rfl (Nat.le_of_ble_eq_true rfl) ⟨by decide, by decide⟩ (Nat.le_of_ble_eq_true rfl) rfl (tX12_begins l1 l2 (nI 2) l3 M1) rfl (fun v4 M3 => ?_)
    refine K_if_eq (q := 21) (tgt := 25) dX12_store_18 rfl ?_ rfl ?_
    · refine K_iconst (q := 26) (v := nI 0) dX12_store_25 rfl rfl ?_
      refine J_goto (tgt := 30) dX12_store_26 rfl ?_
      exact J_iret dX12_store_30
    · refine K_iconst (q := 22) (v := nI 1) dX12_store_21 rfl rfl ?_
      refine J_goto (tgt := 30) dX12_store_22 rfl ?_
      exact J_iret dX12_store_30
theorem dX12_state_0 : decode cX12_state 0 = .ok (.aload_n 0, 1) := by decide +kernel
theorem dX12_state_1 : decode cX12_state 1 = .ok (.getfield 9, 3) := by decide +kernel
theorem dX12_state_4 : decode cX12_state 4 = .ok (.bipush 6, 2) := by decide +kernel
theorem dX12_state_6 : decode cX12_state 6 = .ok (.iaload, 1) := by decide +kernel
theorem dX12_state_7 : decode cX12_state 7 = .ok (.istore_n 2, 1) := by decide +kernel
theorem dX12_state_8 : decode cX12_state 8 = .ok (.aload_n 0, 1) := by decide +kernel
theorem dX12_state_9 : decode cX12_state 9 = .ok (.getfield 9, 3) := by decide +kernel
theorem dX12_state_12 : decode cX12_state 12 = .ok (.bipush 6, 2) := by decide +kernel
theorem dX12_state_14 : decode cX12_state 14 = .ok (.iload_n 1, 1) := by decide +kernel
theorem dX12_state_15 : decode cX12_state 15 = .ok (.iastore, 1) := by decide +kernel
theorem dX12_state_16 : decode cX12_state 16 = .ok (.iload_n 2, 1) := by decide +kernel
theorem dX12_state_17 : decode cX12_state 17 = .ok (.ireturn, 1) := by decide +kernel
def xX12_state  (l1 : Int32) (M : j_M) : Option (Int32 × j_M) := gd (nI 6) 7460 (oli (M 201 (ix (nI 6))) fun v1 => gd (nI 6) 7460 (oml (mw M 201 (ix (nI 6)) l1) fun M2 => some (v1, M2)))
set_option maxRecDepth 20000 in
set_option maxHeartbeats 2000000 in
theorem tX12_state  (l1 : Int32) (M : j_M) : J (ρ := Int32 × j_M) yX12_state cX12_state 3 (some .int) 0 0 j_ei 0 [(0, .inr (17, 0, 200)), (1, .inl (l1))] [] M (xX12_state  l1 M) := by
  unfold xX12_state
  refine K_aload_n (q := 1) 0 dX12_state_0 rfl rfl rfl ?_
  refine K_getR (q := 4) (ci := 7) (a2 := 201) 0 dX12_state_1 fRX12_9 rfl rfl (by decide) rfl rfl ?_
  refine K_bipush (q := 6) (v := nI 6) dX12_state_4 rfl rfl ?_
  refine K_iald (q := 7) dX12_state_6 rfl (fun v1 => ?_)
  refine K_istore_n (q := 8) (ll' := [(2, .inl (v1)), (0, .inr (17, 0, 200)), (1, .inl (l1))]) dX12_state_7 rfl (by decide) rfl rfl ?_
  refine K_aload_n (q := 9) 1 dX12_state_8 rfl rfl rfl ?_
  refine K_getR (q := 12) (ci := 7) (a2 := 201) 0 dX12_state_9 fRX12_9 rfl rfl (by decide) rfl rfl ?_
  refine K_bipush (q := 14) (v := nI 6) dX12_state_12 rfl rfl ?_
  refine K_iload_n (q := 15) 2 dX12_state_14 rfl rfl rfl ?_
  refine K_iast (q := 16) dX12_state_15 rfl (fun M2 => ?_)
  refine K_iload_n (q := 17) 0 dX12_state_16 rfl rfl rfl ?_
  exact J_iret dX12_state_17
