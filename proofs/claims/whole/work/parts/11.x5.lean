theorem ws_in1 : ∀ w ∈ u_ws RX5 TX5 15, w ∈ j_ws := j_in_r _ [183, 185, 187, 189, 191, 193, 195, 197, 199, 201, 203, 205, 207, 209, 211] (by decide +kernel) (by decide +kernel)
theorem fRX5_27 : j_F RX5 27 1 5 := ⟨RX5, TX5, 15, rfl, by decide, ws_in1, j_in 160 (by decide +kernel) (by decide +kernel)⟩
theorem fRX5_24 : j_F RX5 24 1 4 := ⟨RX5, TX5, 15, rfl, by decide, ws_in1, j_in 158 (by decide +kernel) (by decide +kernel)⟩
theorem fRX5_9 : j_F RX5 9 1 0 := ⟨RX5, TX5, 15, rfl, by decide, ws_in1, j_in 147 (by decide +kernel) (by decide +kernel)⟩
theorem fRX5_51 : j_F RX5 51 1 11 := ⟨RX5, TX5, 15, rfl, by decide, ws_in1, j_in 175 (by decide +kernel) (by decide +kernel)⟩
theorem fp_1_11 : j_FP 1 11 .int := ⟨RX5, TX5, 15, tyX5, rfl, tyX5_ok, nmX5, rfl, by decide +kernel⟩
theorem fRX5_33 : j_F RX5 33 1 7 := ⟨RX5, TX5, 15, rfl, by decide, ws_in1, j_in 165 (by decide +kernel) (by decide +kernel)⟩
theorem fRX5_36 : j_F RX5 36 1 8 := ⟨RX5, TX5, 15, rfl, by decide, ws_in1, j_in 168 (by decide +kernel) (by decide +kernel)⟩
theorem fRX5_39 : j_F RX5 39 1 9 := ⟨RX5, TX5, 15, rfl, by decide, ws_in1, j_in 170 (by decide +kernel) (by decide +kernel)⟩
theorem ws_in4 : ∀ w ∈ u_ws RX9 TX9 8, w ∈ j_ws := j_in_r _ [312, 314, 316, 318, 320, 322, 324, 326] (by decide +kernel) (by decide +kernel)
theorem fRX9_40 : j_F RX9 40 4 7 := ⟨RX9, TX9, 8, rfl, by decide, ws_in4, j_in 311 (by decide +kernel) (by decide +kernel)⟩
theorem fp_4_7 : j_FP 4 7 .int := ⟨RX9, TX9, 8, tyX9, rfl, tyX9_ok, nmX9, rfl, by decide +kernel⟩
theorem fRX5_15 : j_F RX5 15 1 1 := ⟨RX5, TX5, 15, rfl, by decide, ws_in1, j_in 149 (by decide +kernel) (by decide +kernel)⟩
theorem fRX5_18 : j_F RX5 18 1 2 := ⟨RX5, TX5, 15, rfl, by decide, ws_in1, j_in 152 (by decide +kernel) (by decide +kernel)⟩
theorem fRX5_21 : j_F RX5 21 1 3 := ⟨RX5, TX5, 15, rfl, by decide, ws_in1, j_in 155 (by decide +kernel) (by decide +kernel)⟩
theorem fRX5_30 : j_F RX5 30 1 6 := ⟨RX5, TX5, 15, rfl, by decide, ws_in1, j_in 162 (by decide +kernel) (by decide +kernel)⟩
theorem fRX5_42 : j_F RX5 42 1 10 := ⟨RX5, TX5, 15, rfl, by decide, ws_in1, j_in 172 (by decide +kernel) (by decide +kernel)⟩
theorem fRX5_55 : j_F RX5 55 1 12 := ⟨RX5, TX5, 15, rfl, by decide, ws_in1, j_in 177 (by decide +kernel) (by decide +kernel)⟩
theorem fp_1_12 : j_FP 1 12 .int := ⟨RX5, TX5, 15, tyX5, rfl, tyX5_ok, nmX5, rfl, by decide +kernel⟩
theorem fRX5_58 : j_F RX5 58 1 13 := ⟨RX5, TX5, 15, rfl, by decide, ws_in1, j_in 179 (by decide +kernel) (by decide +kernel)⟩
theorem fp_1_13 : j_FP 1 13 .int := ⟨RX5, TX5, 15, tyX5, rfl, tyX5_ok, nmX5, rfl, by decide +kernel⟩
theorem fRX5_61 : j_F RX5 61 1 14 := ⟨RX5, TX5, 15, rfl, by decide, ws_in1, j_in 181 (by decide +kernel) (by decide +kernel)⟩
theorem fp_1_14 : j_FP 1 14 .int := ⟨RX5, TX5, 15, tyX5, rfl, tyX5_ok, nmX5, rfl, by decide +kernel⟩
theorem fRX9_9 : j_F RX9 9 4 0 := ⟨RX9, TX9, 8, rfl, by decide, ws_in4, j_in 292 (by decide +kernel) (by decide +kernel)⟩
theorem fRX9_15 : j_F RX9 15 4 1 := ⟨RX9, TX9, 8, rfl, by decide, ws_in4, j_in 294 (by decide +kernel) (by decide +kernel)⟩
theorem fRX9_18 : j_F RX9 18 4 2 := ⟨RX9, TX9, 8, rfl, by decide, ws_in4, j_in 297 (by decide +kernel) (by decide +kernel)⟩
theorem fRX9_21 : j_F RX9 21 4 3 := ⟨RX9, TX9, 8, rfl, by decide, ws_in4, j_in 300 (by decide +kernel) (by decide +kernel)⟩
theorem fRX9_24 : j_F RX9 24 4 4 := ⟨RX9, TX9, 8, rfl, by decide, ws_in4, j_in 303 (by decide +kernel) (by decide +kernel)⟩
theorem fRX9_33 : j_F RX9 33 4 5 := ⟨RX9, TX9, 8, rfl, by decide, ws_in4, j_in 305 (by decide +kernel) (by decide +kernel)⟩
theorem fp_4_5 : j_FP 4 5 .int := ⟨RX9, TX9, 8, tyX9, rfl, tyX9_ok, nmX9, rfl, by decide +kernel⟩
theorem fRX9_37 : j_F RX9 37 4 6 := ⟨RX9, TX9, 8, rfl, by decide, ws_in4, j_in 307 (by decide +kernel) (by decide +kernel)⟩
theorem fp_4_6 : j_FP 4 6 .int := ⟨RX9, TX9, 8, tyX9, rfl, tyX9_ok, nmX9, rfl, by decide +kernel⟩
theorem cb_X5_sum : j_CB yX5_sum cX5_sum 3 (some .int) 1 := ⟨by decide +kernel, j_in 839 (by decide +kernel) (by decide +kernel), j_in 109 (by decide +kernel) (by decide +kernel), by decide +kernel, by decide +kernel, by decide +kernel⟩
theorem cvRX5_70 : j_CS RX5 70 yX5_sum := ⟨Or.inl (j_in 1166 (by decide +kernel) (by decide +kernel)), j_in 838 (by decide +kernel) (by decide +kernel)⟩
theorem dX5_see_0 : decode cX5_see 0 = .ok (.aload_n 0, 1) := by decide +kernel
theorem dX5_see_1 : decode cX5_see 1 = .ok (.getfield 27, 3) := by decide +kernel
theorem dX5_see_4 : decode cX5_see 4 = .ok (.iload_n 1, 1) := by decide +kernel
theorem dX5_see_5 : decode cX5_see 5 = .ok (.iaload, 1) := by decide +kernel
theorem dX5_see_6 : decode cX5_see 6 = .ok (.istore_n 3, 1) := by decide +kernel
theorem dX5_see_7 : decode cX5_see 7 = .ok (.iload_n 3, 1) := by decide +kernel
theorem dX5_see_8 : decode cX5_see 8 = .ok (.bipush 60, 2) := by decide +kernel
theorem dX5_see_10 : decode cX5_see 10 = .ok (.if_icmp .ge 24, 3) := by decide +kernel
theorem dX5_see_13 : decode cX5_see 13 = .ok (.aload_n 0, 1) := by decide +kernel
theorem dX5_see_14 : decode cX5_see 14 = .ok (.getfield 24, 3) := by decide +kernel
theorem dX5_see_17 : decode cX5_see 17 = .ok (.iload_n 1, 1) := by decide +kernel
theorem dX5_see_18 : decode cX5_see 18 = .ok (.bipush 60, 2) := by decide +kernel
theorem dX5_see_20 : decode cX5_see 20 = .ok (.imul, 1) := by decide +kernel
theorem dX5_see_21 : decode cX5_see 21 = .ok (.iload_n 3, 1) := by decide +kernel
theorem dX5_see_22 : decode cX5_see 22 = .ok (.iadd, 1) := by decide +kernel
theorem dX5_see_23 : decode cX5_see 23 = .ok (.iload_n 2, 1) := by decide +kernel
theorem dX5_see_24 : decode cX5_see 24 = .ok (.iastore, 1) := by decide +kernel
theorem dX5_see_25 : decode cX5_see 25 = .ok (.aload_n 0, 1) := by decide +kernel
theorem dX5_see_26 : decode cX5_see 26 = .ok (.getfield 27, 3) := by decide +kernel
theorem dX5_see_29 : decode cX5_see 29 = .ok (.iload_n 1, 1) := by decide +kernel
theorem dX5_see_30 : decode cX5_see 30 = .ok (.iload_n 3, 1) := by decide +kernel
theorem dX5_see_31 : decode cX5_see 31 = .ok (.iconst 1, 1) := by decide +kernel
theorem dX5_see_32 : decode cX5_see 32 = .ok (.iadd, 1) := by decide +kernel
theorem dX5_see_33 : decode cX5_see 33 = .ok (.iastore, 1) := by decide +kernel
theorem dX5_see_34 : decode cX5_see 34 = .ok (.return_, 1) := by decide +kernel
def xX5_see (t : Nat) (l1 : Int32) (l2 : Int32) (M : j_M) : Option (j_M) := gd l1 6 (oli (M (t + 6) (ix l1)) fun v1 => (if (nI 60) ≤ v1 then some M else gd ((l1 * (nI 60)) + v1) 360 (oml (mw M (t + 5) (ix ((l1 * (nI 60)) + v1)) l2) fun M2 => gd l1 6 (oml (mw M2 (t + 6) (ix l1) (v1 + (nI 1))) fun M3 => some M3))))
set_option maxRecDepth 20000 in
set_option maxHeartbeats 2000000 in
theorem tX5_see (t : Nat) (l1 : Int32) (l2 : Int32) (M : j_M) : J (ρ := j_M) yX5_see cX5_see 4 none 0 0 j_ev 0 [(0, .inr (11, 0, t)), (1, .inl (l1)), (2, .inl (l2))] [] M (xX5_see t l1 l2 M) := by
  unfold xX5_see
  refine K_aload_n (q := 1) 0 dX5_see_0 rfl rfl rfl ?_
  refine K_getR (q := 4) (ci := 1) (a2 := t + 6) 5 dX5_see_1 fRX5_27 rfl rfl (by decide) rfl rfl ?_
  refine K_iload_n (q := 5) 1 dX5_see_4 rfl rfl rfl ?_
  refine K_iald (q := 6) dX5_see_5 rfl (fun v1 => ?_)
  refine K_istore_n (q := 7) (ll' := [(3, .inl (v1)), (0, .inr (11, 0, t)), (1, .inl (l1)), (2, .inl (l2))]) dX5_see_6 rfl (by decide) rfl rfl ?_
  refine K_iload_n (q := 8) 0 dX5_see_7 rfl rfl rfl ?_
  refine K_bipush (q := 10) (v := nI 60) dX5_see_8 rfl rfl ?_
  refine K_icmp_ge (q := 13) (tgt := 34) dX5_see_10 rfl ?_ rfl ?_
  · exact J_vret dX5_see_34
  · refine K_aload_n (q := 14) 1 dX5_see_13 rfl rfl rfl ?_
    refine K_getR (q := 17) (ci := 1) (a2 := t + 5) 4 dX5_see_14 fRX5_24 rfl rfl (by decide) rfl rfl ?_
    refine K_iload_n (q := 18) 2 dX5_see_17 rfl rfl rfl ?_
    refine K_bipush (q := 20) (v := nI 60) dX5_see_18 rfl rfl ?_
    refine K_imul (q := 21) dX5_see_20 rfl ?_
    refine K_iload_n (q := 22) 0 dX5_see_21 rfl rfl rfl ?_
    refine K_iadd (q := 23) dX5_see_22 rfl ?_
    refine K_iload_n (q := 24) 3 dX5_see_23 rfl rfl rfl ?_
    refine K_iast (q := 25) dX5_see_24 rfl (fun M2 => ?_)
    refine K_aload_n (q := 26) 1 dX5_see_25 rfl rfl rfl ?_
    refine K_getR (q := 29) (ci := 1) (a2 := t + 6) 5 dX5_see_26 fRX5_27 rfl rfl (by decide) rfl rfl ?_
    refine K_iload_n (q := 30) 2 dX5_see_29 rfl rfl rfl ?_
    refine K_iload_n (q := 31) 0 dX5_see_30 rfl rfl rfl ?_
    refine K_iconst (q := 32) (v := nI 1) dX5_see_31 rfl rfl ?_
    refine K_iadd (q := 33) dX5_see_32 rfl ?_
    refine K_iast (q := 34) dX5_see_33 rfl (fun M3 => ?_)
    exact J_vret dX5_see_34
theorem dX5_note_0 : decode cX5_note 0 = .ok (.aload_n 0, 1) := by decide +kernel
theorem dX5_note_1 : decode cX5_note 1 = .ok (.getfield 9, 3) := by decide +kernel
theorem dX5_note_4 : decode cX5_note 4 = .ok (.aload_n 0, 1) := by decide +kernel
theorem dX5_note_5 : decode cX5_note 5 = .ok (.getfield 51, 3) := by decide +kernel
theorem dX5_note_8 : decode cX5_note 8 = .ok (.bipush 100, 2) := by decide +kernel
theorem dX5_note_10 : decode cX5_note 10 = .ok (.irem, 1) := by decide +kernel
theorem dX5_note_11 : decode cX5_note 11 = .ok (.iload_n 1, 1) := by decide +kernel
theorem dX5_note_12 : decode cX5_note 12 = .ok (.bipush 9, 2) := by decide +kernel
theorem dX5_note_14 : decode cX5_note 14 = .ok (.ishl, 1) := by decide +kernel
theorem dX5_note_15 : decode cX5_note 15 = .ok (.iload_n 2, 1) := by decide +kernel
theorem dX5_note_16 : decode cX5_note 16 = .ok (.bipush 6, 2) := by decide +kernel
theorem dX5_note_18 : decode cX5_note 18 = .ok (.ishl, 1) := by decide +kernel
theorem dX5_note_19 : decode cX5_note 19 = .ok (.ior, 1) := by decide +kernel
theorem dX5_note_20 : decode cX5_note 20 = .ok (.iload_n 3, 1) := by decide +kernel
theorem dX5_note_21 : decode cX5_note 21 = .ok (.iconst 3, 1) := by decide +kernel
theorem dX5_note_22 : decode cX5_note 22 = .ok (.ishl, 1) := by decide +kernel
theorem dX5_note_23 : decode cX5_note 23 = .ok (.ior, 1) := by decide +kernel
theorem dX5_note_24 : decode cX5_note 24 = .ok (.iload 4, 2) := by decide +kernel
theorem dX5_note_26 : decode cX5_note 26 = .ok (.ior, 1) := by decide +kernel
theorem dX5_note_27 : decode cX5_note 27 = .ok (.iastore, 1) := by decide +kernel
theorem dX5_note_28 : decode cX5_note 28 = .ok (.aload_n 0, 1) := by decide +kernel
theorem dX5_note_29 : decode cX5_note 29 = .ok (.dup, 1) := by decide +kernel
theorem dX5_note_30 : decode cX5_note 30 = .ok (.getfield 51, 3) := by decide +kernel
theorem dX5_note_33 : decode cX5_note 33 = .ok (.iconst 1, 1) := by decide +kernel
theorem dX5_note_34 : decode cX5_note 34 = .ok (.iadd, 1) := by decide +kernel
theorem dX5_note_35 : decode cX5_note 35 = .ok (.putfield 51, 3) := by decide +kernel
theorem dX5_note_38 : decode cX5_note 38 = .ok (.return_, 1) := by decide +kernel
def xX5_note (t : Nat) (l1 : Int32) (l2 : Int32) (l3 : Int32) (l4 : Int32) (M : j_M) : Option (j_M) := oli (M t 11) fun v1 => gn (nI 100) (gd (v1 - v1 / (nI 100) * (nI 100)) 100 (oml (mw M (t + 1) (ix (v1 - v1 / (nI 100) * (nI 100))) ((((l1 <<< ((nI 9) &&& 31)) ||| (l2 <<< ((nI 6) &&& 31))) ||| (l3 <<< ((nI 3) &&& 31))) ||| l4)) fun M2 => oli (M2 t 11) fun v3 => oml (mw M2 t 11 (v3 + (nI 1))) fun M4 => some M4))
set_option maxRecDepth 20000 in
set_option maxHeartbeats 2000000 in
theorem tX5_note (t : Nat) (l1 : Int32) (l2 : Int32) (l3 : Int32) (l4 : Int32) (M : j_M) : J (ρ := j_M) yX5_note cX5_note 5 none 0 0 j_ev 0 [(0, .inr (11, 0, t)), (1, .inl (l1)), (2, .inl (l2)), (3, .inl (l3)), (4, .inl (l4))] [] M (xX5_note t l1 l2 l3 l4 M) := by
  unfold xX5_note
  refine K_aload_n (q := 1) 0 dX5_note_0 rfl rfl rfl ?_
  refine K_getR (q := 4) (ci := 1) (a2 := t + 1) 0 dX5_note_1 fRX5_9 rfl rfl (by decide) rfl rfl ?_
  refine K_aload_n (q := 5) 0 dX5_note_4 rfl rfl rfl ?_
  refine K_getI (q := 8) (ci := 1) 11 dX5_note_5 fRX5_51 rfl rfl rfl (fun v1 => ?_)
  refine K_bipush (q := 10) (v := nI 100) dX5_note_8 rfl rfl ?_
  refine K_irem (q := 11) dX5_note_10 rfl ?_
  refine K_iload_n (q := 12) 1 dX5_note_11 rfl rfl rfl ?_
  refine K_bipush (q := 14) (v := nI 9) dX5_note_12 rfl rfl ?_
  refine K_ishl (q := 15) dX5_note_14 rfl ?_
  refine K_iload_n (q := 16) 2 dX5_note_15 rfl rfl rfl ?_
  refine K_bipush (q := 18) (v := nI 6) dX5_note_16 rfl rfl ?_
  refine K_ishl (q := 19) dX5_note_18 rfl ?_
  refine K_ior (q := 20) dX5_note_19 rfl ?_
  refine K_iload_n (q := 21) 3 dX5_note_20 rfl rfl rfl ?_
  refine K_iconst (q := 22) (v := nI 3) dX5_note_21 rfl rfl ?_
  refine K_ishl (q := 23) dX5_note_22 rfl ?_
  refine K_ior (q := 24) dX5_note_23 rfl ?_
  refine K_iload (q := 26) 4 dX5_note_24 rfl rfl ?_
  refine K_ior (q := 27) dX5_note_26 rfl ?_
  refine K_iast (q := 28) dX5_note_27 rfl (fun M2 => ?_)
  refine K_aload_n (q := 29) 0 dX5_note_28 rfl rfl rfl ?_
  refine K_dup (q := 30) dX5_note_29 rfl ?_
  refine K_getI (q := 33) (ci := 1) 11 dX5_note_30 fRX5_51 rfl rfl rfl (fun v3 => ?_)
  refine K_iconst (q := 34) (v := nI 1) dX5_note_33 rfl rfl ?_
  refine K_iadd (q := 35) dX5_note_34 rfl ?_
  refine K_putI (q := 38) (ci := 1) 11 dX5_note_35 fRX5_51 fp_1_11 rfl rfl (by decide) rfl (fun M4 => ?_)
  exact J_vret dX5_note_38
theorem dX5_countEnd_0 : decode cX5_countEnd 0 = .ok (.aload_n 0, 1) := by decide +kernel
theorem dX5_countEnd_1 : decode cX5_countEnd 1 = .ok (.getfield 33, 3) := by decide +kernel
theorem dX5_countEnd_4 : decode cX5_countEnd 4 = .ok (.iload_n 1, 1) := by decide +kernel
theorem dX5_countEnd_5 : decode cX5_countEnd 5 = .ok (.dup2, 1) := by decide +kernel
theorem dX5_countEnd_6 : decode cX5_countEnd 6 = .ok (.iaload, 1) := by decide +kernel
theorem dX5_countEnd_7 : decode cX5_countEnd 7 = .ok (.iconst 1, 1) := by decide +kernel
theorem dX5_countEnd_8 : decode cX5_countEnd 8 = .ok (.iadd, 1) := by decide +kernel
theorem dX5_countEnd_9 : decode cX5_countEnd 9 = .ok (.iastore, 1) := by decide +kernel
theorem dX5_countEnd_10 : decode cX5_countEnd 10 = .ok (.aload_n 0, 1) := by decide +kernel
theorem dX5_countEnd_11 : decode cX5_countEnd 11 = .ok (.getfield 36, 3) := by decide +kernel
theorem dX5_countEnd_14 : decode cX5_countEnd 14 = .ok (.iload_n 1, 1) := by decide +kernel
theorem dX5_countEnd_15 : decode cX5_countEnd 15 = .ok (.dup2, 1) := by decide +kernel
theorem dX5_countEnd_16 : decode cX5_countEnd 16 = .ok (.iaload, 1) := by decide +kernel
theorem dX5_countEnd_17 : decode cX5_countEnd 17 = .ok (.iload_n 2, 1) := by decide +kernel
theorem dX5_countEnd_18 : decode cX5_countEnd 18 = .ok (.iadd, 1) := by decide +kernel
theorem dX5_countEnd_19 : decode cX5_countEnd 19 = .ok (.iastore, 1) := by decide +kernel
theorem dX5_countEnd_20 : decode cX5_countEnd 20 = .ok (.aload_n 0, 1) := by decide +kernel
theorem dX5_countEnd_21 : decode cX5_countEnd 21 = .ok (.getfield 39, 3) := by decide +kernel
theorem dX5_countEnd_24 : decode cX5_countEnd 24 = .ok (.iload_n 1, 1) := by decide +kernel
theorem dX5_countEnd_25 : decode cX5_countEnd 25 = .ok (.aload_n 0, 1) := by decide +kernel
theorem dX5_countEnd_26 : decode cX5_countEnd 26 = .ok (.getfield 39, 3) := by decide +kernel
theorem dX5_countEnd_29 : decode cX5_countEnd 29 = .ok (.iload_n 1, 1) := by decide +kernel
theorem dX5_countEnd_30 : decode cX5_countEnd 30 = .ok (.iaload, 1) := by decide +kernel
theorem dX5_countEnd_31 : decode cX5_countEnd 31 = .ok (.iload_n 2, 1) := by decide +kernel
theorem dX5_countEnd_32 : decode cX5_countEnd 32 = .ok (.invokestatic 64, 3) := by decide +kernel
theorem dX5_countEnd_35 : decode cX5_countEnd 35 = .ok (.iastore, 1) := by decide +kernel
theorem dX5_countEnd_36 : decode cX5_countEnd 36 = .ok (.return_, 1) := by decide +kernel
def xX5_countEnd (t : Nat) (l1 : Int32) (l2 : Int32) (M : j_M) : Option (j_M) := gd l1 6 (oli (M (t + 8) (ix l1)) fun v1 => gd l1 6 (oml (mw M (t + 8) (ix l1) (v1 + (nI 1))) fun M2 => gd l1 6 (oli (M2 (t + 9) (ix l1)) fun v3 => gd l1 6 (oml (mw M2 (t + 9) (ix l1) (v3 + l2)) fun M4 => gd l1 6 (oli (M4 (t + 10) (ix l1)) fun v5 => oli (if v5 < l2 then l2 else v5) fun v6 => gd l1 6 (oml (mw M4 (t + 10) (ix l1) v6) fun M7 => some M7))))))
set_option maxRecDepth 20000 in
set_option maxHeartbeats 2000000 in
theorem tX5_countEnd (t : Nat) (l1 : Int32) (l2 : Int32) (M : j_M) : J (ρ := j_M) yX5_countEnd cX5_countEnd 3 none 1 24 j_ev 0 [(0, .inr (11, 0, t)), (1, .inl (l1)), (2, .inl (l2))] [] M (xX5_countEnd t l1 l2 M) := by
  unfold xX5_countEnd
  refine K_aload_n (q := 1) 0 dX5_countEnd_0 rfl rfl rfl ?_
  refine K_getR (q := 4) (ci := 1) (a2 := t + 8) 7 dX5_countEnd_1 fRX5_33 rfl rfl (by decide) rfl rfl ?_
  refine K_iload_n (q := 5) 1 dX5_countEnd_4 rfl rfl rfl ?_
  refine K_dup2 (q := 6) dX5_countEnd_5 rfl ?_
  refine K_iald (q := 7) dX5_countEnd_6 rfl (fun v1 => ?_)
  refine K_iconst (q := 8) (v := nI 1) dX5_countEnd_7 rfl rfl ?_
  refine K_iadd (q := 9) dX5_countEnd_8 rfl ?_
  refine K_iast (q := 10) dX5_countEnd_9 rfl (fun M2 => ?_)
  refine K_aload_n (q := 11) 0 dX5_countEnd_10 rfl rfl rfl ?_
  refine K_getR (q := 14) (ci := 1) (a2 := t + 9) 8 dX5_countEnd_11 fRX5_36 rfl rfl (by decide) rfl rfl ?_
  refine K_iload_n (q := 15) 1 dX5_countEnd_14 rfl rfl rfl ?_
  refine K_dup2 (q := 16) dX5_countEnd_15 rfl ?_
  refine K_iald (q := 17) dX5_countEnd_16 rfl (fun v3 => ?_)
  refine K_iload_n (q := 18) 2 dX5_countEnd_17 rfl rfl rfl ?_
  refine K_iadd (q := 19) dX5_countEnd_18 rfl ?_
  refine K_iast (q := 20) dX5_countEnd_19 rfl (fun M4 => ?_)
  refine K_aload_n (q := 21) 0 dX5_countEnd_20 rfl rfl rfl ?_
  refine K_getR (q := 24) (ci := 1) (a2 := t + 10) 9 dX5_countEnd_21 fRX5_39 rfl rfl (by decide) rfl rfl ?_
  refine K_iload_n (q := 25) 1 dX5_countEnd_24 rfl rfl rfl ?_
  refine K_aload_n (q := 26) 0 dX5_countEnd_25 rfl rfl rfl ?_
  refine K_getR (q := 29) (ci := 1) (a2 := t + 10) 9 dX5_countEnd_26 fRX5_39 rfl rfl (by decide) rfl rfl ?_
  refine K_iload_n (q := 30) 1 dX5_countEnd_29 rfl rfl rfl ?_
  refine K_iald (q := 31) dX5_countEnd_30 rfl (fun v5 => ?_)
  refine K_iload_n (q := 32) 2 dX5_countEnd_31 rfl rfl rfl ?_
  refine K_max (q := 35) dX5_countEnd_32 (j_in 618 (by decide +kernel) (by decide +kernel)) mx_stat mx_ini mx_code (by decide) (Nat.le_of_ble_eq_true rfl) rfl (fun v6 => ?_)
  refine K_iast (q := 36) dX5_countEnd_35 rfl (fun M7 => ?_)
  exact J_vret dX5_countEnd_36
theorem dX5_sum_0 : decode cX5_sum 0 = .ok (.iconst 0, 1) := by decide +kernel
theorem dX5_sum_1 : decode cX5_sum 1 = .ok (.istore_n 1, 1) := by decide +kernel
theorem dX5_sum_2 : decode cX5_sum 2 = .ok (.iconst 0, 1) := by decide +kernel
theorem dX5_sum_3 : decode cX5_sum 3 = .ok (.istore_n 2, 1) := by decide +kernel
theorem dX5_sum_4 : decode cX5_sum 4 = .ok (.iload_n 2, 1) := by decide +kernel
theorem dX5_sum_5 : decode cX5_sum 5 = .ok (.aload_n 0, 1) := by decide +kernel
theorem dX5_sum_6 : decode cX5_sum 6 = .ok (.arraylength, 1) := by decide +kernel
theorem dX5_sum_7 : decode cX5_sum 7 = .ok (.if_icmp .ge 15, 3) := by decide +kernel
theorem dX5_sum_10 : decode cX5_sum 10 = .ok (.iload_n 1, 1) := by decide +kernel
theorem dX5_sum_11 : decode cX5_sum 11 = .ok (.aload_n 0, 1) := by decide +kernel
theorem dX5_sum_12 : decode cX5_sum 12 = .ok (.iload_n 2, 1) := by decide +kernel
theorem dX5_sum_13 : decode cX5_sum 13 = .ok (.iaload, 1) := by decide +kernel
theorem dX5_sum_14 : decode cX5_sum 14 = .ok (.iadd, 1) := by decide +kernel
theorem dX5_sum_15 : decode cX5_sum 15 = .ok (.istore_n 1, 1) := by decide +kernel
theorem dX5_sum_16 : decode cX5_sum 16 = .ok (.iinc 2 1, 3) := by decide +kernel
theorem dX5_sum_19 : decode cX5_sum 19 = .ok (.goto (-15), 3) := by decide +kernel
theorem dX5_sum_22 : decode cX5_sum 22 = .ok (.iload_n 1, 1) := by decide +kernel
theorem dX5_sum_23 : decode cX5_sum 23 = .ok (.ireturn, 1) := by decide +kernel
def xX5_sum_4  (n0 : Nat) (u0 : Nat) : Nat → Int32 → Int32 → j_M → Option (Int32 × j_M)
  | 0, _, _, _ => none
  | n + 1, l1, l2, M => (if (Int32.ofNat n0) ≤ l2 then some (l1, M) else gd l2 n0 (oli (M u0 (ix l2)) fun v1 => xX5_sum_4 n0 u0 n (l1 + v1) (l2 + (nI 1)) M))
set_option maxRecDepth 20000 in
set_option maxHeartbeats 2000000 in
theorem tX5_sum_4  (n0 : Nat) (u0 : Nat)  : ∀ (n : Nat) (l1 : Int32) (l2 : Int32) (M : j_M), J (ρ := Int32 × j_M) yX5_sum cX5_sum 3 (some .int) 0 0 j_ei 4 [(0, .inr (1, n0, u0)), (1, .inl (l1)), (2, .inl (l2))] [] M (xX5_sum_4 n0 u0 n l1 l2 M) := by
  intro n
  induction n with
  | zero => intros; exact J_none
  | succ n ih =>
    intro l1 l2 M
    rw [xX5_sum_4.eq_2]
    refine K_iload_n (q := 5) 2 dX5_sum_4 rfl rfl rfl ?_
    refine K_aload_n (q := 6) 0 dX5_sum_5 rfl rfl rfl ?_
    refine K_alen (q := 7) (v := Int32.ofNat n0) dX5_sum_6 rfl rfl ?_
    refine K_icmp_ge (q := 10) (tgt := 22) dX5_sum_7 rfl ?_ rfl ?_
    · refine K_iload_n (q := 23) 1 dX5_sum_22 rfl rfl rfl ?_
      exact J_iret dX5_sum_23
    · refine K_iload_n (q := 11) 1 dX5_sum_10 rfl rfl rfl ?_
      refine K_aload_n (q := 12) 0 dX5_sum_11 rfl rfl rfl ?_
      refine K_iload_n (q := 13) 2 dX5_sum_12 rfl rfl rfl ?_
      refine K_iald (q := 14) dX5_sum_13 rfl (fun v1 => ?_)
      refine K_iadd (q := 15) dX5_sum_14 rfl ?_
      refine K_istore_n (q := 16) (ll' := [(1, .inl (l1 + v1)), (0, .inr (1, n0, u0)), (2, .inl (l2))]) dX5_sum_15 rfl (by decide) rfl rfl ?_
      refine K_iinc (q := 19) (v := l2 + (nI 1)) (ll' := [(2, .inl (l2 + (nI 1))), (1, .inl (l1 + v1)), (0, .inr (1, n0, u0))]) 2 dX5_sum_16 rfl rfl (by decide) rfl rfl ?_
      refine J_goto (tgt := 4) dX5_sum_19 rfl ?_
      exact J_sub [2, 1, 0] (ih (l1 + v1) (l2 + (nI 1)) M) rfl
def xX5_sum (n0 : Nat) (u0 : Nat)  (M : j_M) : Option (Int32 × j_M) := xX5_sum_4 n0 u0 fu (nI 0) (nI 0) M
set_option maxRecDepth 20000 in
set_option maxHeartbeats 2000000 in
theorem tX5_sum (n0 : Nat) (u0 : Nat)  (M : j_M) : J (ρ := Int32 × j_M) yX5_sum cX5_sum 3 (some .int) 0 0 j_ei 0 [(0, .inr (1, n0, u0))] [] M (xX5_sum n0 u0  M) := by
  unfold xX5_sum
  refine K_iconst (q := 1) (v := nI 0) dX5_sum_0 rfl rfl ?_
  refine K_istore_n (q := 2) (ll' := [(1, .inl ((nI 0))), (0, .inr (1, n0, u0))]) dX5_sum_1 rfl (by decide) rfl rfl ?_
  refine K_iconst (q := 3) (v := nI 0) dX5_sum_2 rfl rfl ?_
  refine K_istore_n (q := 4) (ll' := [(2, .inl ((nI 0))), (1, .inl ((nI 0))), (0, .inr (1, n0, u0))]) dX5_sum_3 rfl (by decide) rfl rfl ?_
  exact J_sub [2, 1, 0] (tX5_sum_4 n0 u0 fu (nI 0) (nI 0) M) rfl
theorem dX9_draw_0 : decode cX9_draw 0 = .ok (.aload_n 0, 1) := by decide +kernel
theorem dX9_draw_1 : decode cX9_draw 1 = .ok (.ldc 43, 2) := by decide +kernel
theorem dX9_draw_3 : decode cX9_draw 3 = .ok (.aload_n 0, 1) := by decide +kernel
theorem dX9_draw_4 : decode cX9_draw 4 = .ok (.getfield 40, 3) := by decide +kernel
theorem dX9_draw_7 : decode cX9_draw 7 = .ok (.imul, 1) := by decide +kernel
theorem dX9_draw_8 : decode cX9_draw 8 = .ok (.ldc 44, 2) := by decide +kernel
theorem dX9_draw_10 : decode cX9_draw 10 = .ok (.iadd, 1) := by decide +kernel
theorem dX9_draw_11 : decode cX9_draw 11 = .ok (.putfield 40, 3) := by decide +kernel
theorem dX9_draw_14 : decode cX9_draw 14 = .ok (.iload_n 1, 1) := by decide +kernel
theorem dX9_draw_15 : decode cX9_draw 15 = .ok (.ifCond .le 15, 3) := by decide +kernel
theorem dX9_draw_18 : decode cX9_draw 18 = .ok (.aload_n 0, 1) := by decide +kernel
theorem dX9_draw_19 : decode cX9_draw 19 = .ok (.getfield 40, 3) := by decide +kernel
theorem dX9_draw_22 : decode cX9_draw 22 = .ok (.bipush 8, 2) := by decide +kernel
theorem dX9_draw_24 : decode cX9_draw 24 = .ok (.iushr, 1) := by decide +kernel
theorem dX9_draw_25 : decode cX9_draw 25 = .ok (.iload_n 1, 1) := by decide +kernel
theorem dX9_draw_26 : decode cX9_draw 26 = .ok (.irem, 1) := by decide +kernel
theorem dX9_draw_27 : decode cX9_draw 27 = .ok (.goto 4, 3) := by decide +kernel
theorem dX9_draw_30 : decode cX9_draw 30 = .ok (.iconst 0, 1) := by decide +kernel
theorem dX9_draw_31 : decode cX9_draw 31 = .ok (.ireturn, 1) := by decide +kernel
def xX9_draw (t : Nat) (l1 : Int32) (M : j_M) : Option (Int32 × j_M) := oli (M t 7) fun v1 => oml (mw M t 7 (((1664525 : Int32) * v1) + (1013904223 : Int32))) fun M2 => (if l1 ≤ (0 : Int32) then some ((nI 0), M2) else oli (M2 t 7) fun v3 => gn l1 (some ((us v3 (nI 8)) - (us v3 (nI 8)) / l1 * l1, M2)))
set_option maxRecDepth 20000 in
set_option maxHeartbeats 2000000 in
theorem tX9_draw (t : Nat) (l1 : Int32) (M : j_M) : J (ρ := Int32 × j_M) yX9_draw cX9_draw 2 (some .int) 0 0 j_ei 0 [(0, .inr (14, 0, t)), (1, .inl (l1))] [] M (xX9_draw t l1 M) := by
  unfold xX9_draw
  refine K_aload_n (q := 1) 0 dX9_draw_0 rfl rfl rfl ?_
  refine K_ldc (q := 3) (v := 1664525) dX9_draw_1 (j_in 858 (by decide +kernel) (by decide +kernel)) rfl ?_
  refine K_aload_n (q := 4) 0 dX9_draw_3 rfl rfl rfl ?_
  refine K_getI (q := 7) (ci := 4) 7 dX9_draw_4 fRX9_40 rfl rfl rfl (fun v1 => ?_)
  refine K_imul (q := 8) dX9_draw_7 rfl ?_
  refine K_ldc (q := 10) (v := 1013904223) dX9_draw_8 (j_in 859 (by decide +kernel) (by decide +kernel)) rfl ?_
  refine K_iadd (q := 11) dX9_draw_10 rfl ?_
  refine K_putI (q := 14) (ci := 4) 7 dX9_draw_11 fRX9_40 fp_4_7 rfl rfl (by decide) rfl (fun M2 => ?_)
  refine K_iload_n (q := 15) 1 dX9_draw_14 rfl rfl rfl ?_
  refine K_if_le (q := 18) (tgt := 30) dX9_draw_15 rfl ?_ rfl ?_
  · refine K_iconst (q := 31) (v := nI 0) dX9_draw_30 rfl rfl ?_
    exact J_iret dX9_draw_31
  · refine K_aload_n (q := 19) 0 dX9_draw_18 rfl rfl rfl ?_
    refine K_getI (q := 22) (ci := 4) 7 dX9_draw_19 fRX9_40 rfl rfl rfl (fun v3 => ?_)
    refine K_bipush (q := 24) (v := nI 8) dX9_draw_22 rfl rfl ?_
    refine K_iushr (q := 25) dX9_draw_24 rfl ?_
    refine K_iload_n (q := 26) 1 dX9_draw_25 rfl rfl rfl ?_
    refine K_irem (q := 27) dX9_draw_26 rfl ?_
    refine J_goto (tgt := 31) dX9_draw_27 rfl ?_
    exact J_iret dX9_draw_31
theorem dX5_become_0 : decode cX5_become 0 = .ok (.aload_n 1, 1) := by decide +kernel
theorem dX5_become_1 : decode cX5_become 1 = .ok (.getfield 9, 3) := by decide +kernel
theorem dX5_become_4 : decode cX5_become 4 = .ok (.iconst 0, 1) := by decide +kernel
theorem dX5_become_5 : decode cX5_become 5 = .ok (.aload_n 0, 1) := by decide +kernel
theorem dX5_become_6 : decode cX5_become 6 = .ok (.getfield 9, 3) := by decide +kernel
theorem dX5_become_9 : decode cX5_become 9 = .ok (.iconst 0, 1) := by decide +kernel
theorem dX5_become_10 : decode cX5_become 10 = .ok (.aload_n 0, 1) := by decide +kernel
theorem dX5_become_11 : decode cX5_become 11 = .ok (.getfield 9, 3) := by decide +kernel
theorem dX5_become_14 : decode cX5_become 14 = .ok (.arraylength, 1) := by decide +kernel
theorem dX5_become_15 : decode cX5_become 15 = .ok (.invokestatic 45, 3) := by decide +kernel
theorem dX5_become_18 : decode cX5_become 18 = .ok (.aload_n 1, 1) := by decide +kernel
theorem dX5_become_19 : decode cX5_become 19 = .ok (.getfield 15, 3) := by decide +kernel
theorem dX5_become_22 : decode cX5_become 22 = .ok (.iconst 0, 1) := by decide +kernel
theorem dX5_become_23 : decode cX5_become 23 = .ok (.aload_n 0, 1) := by decide +kernel
theorem dX5_become_24 : decode cX5_become 24 = .ok (.getfield 15, 3) := by decide +kernel
theorem dX5_become_27 : decode cX5_become 27 = .ok (.iconst 0, 1) := by decide +kernel
theorem dX5_become_28 : decode cX5_become 28 = .ok (.aload_n 0, 1) := by decide +kernel
theorem dX5_become_29 : decode cX5_become 29 = .ok (.getfield 15, 3) := by decide +kernel
theorem dX5_become_32 : decode cX5_become 32 = .ok (.arraylength, 1) := by decide +kernel
theorem dX5_become_33 : decode cX5_become 33 = .ok (.invokestatic 45, 3) := by decide +kernel
theorem dX5_become_36 : decode cX5_become 36 = .ok (.aload_n 1, 1) := by decide +kernel
theorem dX5_become_37 : decode cX5_become 37 = .ok (.getfield 18, 3) := by decide +kernel
theorem dX5_become_40 : decode cX5_become 40 = .ok (.iconst 0, 1) := by decide +kernel
theorem dX5_become_41 : decode cX5_become 41 = .ok (.aload_n 0, 1) := by decide +kernel
theorem dX5_become_42 : decode cX5_become 42 = .ok (.getfield 18, 3) := by decide +kernel
theorem dX5_become_45 : decode cX5_become 45 = .ok (.iconst 0, 1) := by decide +kernel
theorem dX5_become_46 : decode cX5_become 46 = .ok (.aload_n 0, 1) := by decide +kernel
theorem dX5_become_47 : decode cX5_become 47 = .ok (.getfield 18, 3) := by decide +kernel
theorem dX5_become_50 : decode cX5_become 50 = .ok (.arraylength, 1) := by decide +kernel
theorem dX5_become_51 : decode cX5_become 51 = .ok (.invokestatic 45, 3) := by decide +kernel
theorem dX5_become_54 : decode cX5_become 54 = .ok (.aload_n 1, 1) := by decide +kernel
theorem dX5_become_55 : decode cX5_become 55 = .ok (.getfield 21, 3) := by decide +kernel
theorem dX5_become_58 : decode cX5_become 58 = .ok (.iconst 0, 1) := by decide +kernel
theorem dX5_become_59 : decode cX5_become 59 = .ok (.aload_n 0, 1) := by decide +kernel
theorem dX5_become_60 : decode cX5_become 60 = .ok (.getfield 21, 3) := by decide +kernel
theorem dX5_become_63 : decode cX5_become 63 = .ok (.iconst 0, 1) := by decide +kernel
theorem dX5_become_64 : decode cX5_become 64 = .ok (.aload_n 0, 1) := by decide +kernel
theorem dX5_become_65 : decode cX5_become 65 = .ok (.getfield 21, 3) := by decide +kernel
theorem dX5_become_68 : decode cX5_become 68 = .ok (.arraylength, 1) := by decide +kernel
theorem dX5_become_69 : decode cX5_become 69 = .ok (.invokestatic 45, 3) := by decide +kernel
theorem dX5_become_72 : decode cX5_become 72 = .ok (.aload_n 1, 1) := by decide +kernel
theorem dX5_become_73 : decode cX5_become 73 = .ok (.getfield 24, 3) := by decide +kernel
theorem dX5_become_76 : decode cX5_become 76 = .ok (.iconst 0, 1) := by decide +kernel
theorem dX5_become_77 : decode cX5_become 77 = .ok (.aload_n 0, 1) := by decide +kernel
theorem dX5_become_78 : decode cX5_become 78 = .ok (.getfield 24, 3) := by decide +kernel
theorem dX5_become_81 : decode cX5_become 81 = .ok (.iconst 0, 1) := by decide +kernel
theorem dX5_become_82 : decode cX5_become 82 = .ok (.aload_n 0, 1) := by decide +kernel
theorem dX5_become_83 : decode cX5_become 83 = .ok (.getfield 24, 3) := by decide +kernel
theorem dX5_become_86 : decode cX5_become 86 = .ok (.arraylength, 1) := by decide +kernel
theorem dX5_become_87 : decode cX5_become 87 = .ok (.invokestatic 45, 3) := by decide +kernel
theorem dX5_become_90 : decode cX5_become 90 = .ok (.aload_n 1, 1) := by decide +kernel
theorem dX5_become_91 : decode cX5_become 91 = .ok (.getfield 27, 3) := by decide +kernel
theorem dX5_become_94 : decode cX5_become 94 = .ok (.iconst 0, 1) := by decide +kernel
theorem dX5_become_95 : decode cX5_become 95 = .ok (.aload_n 0, 1) := by decide +kernel
theorem dX5_become_96 : decode cX5_become 96 = .ok (.getfield 27, 3) := by decide +kernel
theorem dX5_become_99 : decode cX5_become 99 = .ok (.iconst 0, 1) := by decide +kernel
theorem dX5_become_100 : decode cX5_become 100 = .ok (.bipush 6, 2) := by decide +kernel
theorem dX5_become_102 : decode cX5_become 102 = .ok (.invokestatic 45, 3) := by decide +kernel
theorem dX5_become_105 : decode cX5_become 105 = .ok (.aload_n 1, 1) := by decide +kernel
theorem dX5_become_106 : decode cX5_become 106 = .ok (.getfield 30, 3) := by decide +kernel
theorem dX5_become_109 : decode cX5_become 109 = .ok (.iconst 0, 1) := by decide +kernel
theorem dX5_become_110 : decode cX5_become 110 = .ok (.aload_n 0, 1) := by decide +kernel
theorem dX5_become_111 : decode cX5_become 111 = .ok (.getfield 30, 3) := by decide +kernel
theorem dX5_become_114 : decode cX5_become 114 = .ok (.iconst 0, 1) := by decide +kernel
theorem dX5_become_115 : decode cX5_become 115 = .ok (.bipush 6, 2) := by decide +kernel
theorem dX5_become_117 : decode cX5_become 117 = .ok (.invokestatic 45, 3) := by decide +kernel
theorem dX5_become_120 : decode cX5_become 120 = .ok (.aload_n 1, 1) := by decide +kernel
theorem dX5_become_121 : decode cX5_become 121 = .ok (.getfield 33, 3) := by decide +kernel
theorem dX5_become_124 : decode cX5_become 124 = .ok (.iconst 0, 1) := by decide +kernel
theorem dX5_become_125 : decode cX5_become 125 = .ok (.aload_n 0, 1) := by decide +kernel
theorem dX5_become_126 : decode cX5_become 126 = .ok (.getfield 33, 3) := by decide +kernel
theorem dX5_become_129 : decode cX5_become 129 = .ok (.iconst 0, 1) := by decide +kernel
theorem dX5_become_130 : decode cX5_become 130 = .ok (.bipush 6, 2) := by decide +kernel
theorem dX5_become_132 : decode cX5_become 132 = .ok (.invokestatic 45, 3) := by decide +kernel
theorem dX5_become_135 : decode cX5_become 135 = .ok (.aload_n 1, 1) := by decide +kernel
theorem dX5_become_136 : decode cX5_become 136 = .ok (.getfield 36, 3) := by decide +kernel
theorem dX5_become_139 : decode cX5_become 139 = .ok (.iconst 0, 1) := by decide +kernel
theorem dX5_become_140 : decode cX5_become 140 = .ok (.aload_n 0, 1) := by decide +kernel
theorem dX5_become_141 : decode cX5_become 141 = .ok (.getfield 36, 3) := by decide +kernel
theorem dX5_become_144 : decode cX5_become 144 = .ok (.iconst 0, 1) := by decide +kernel
theorem dX5_become_145 : decode cX5_become 145 = .ok (.bipush 6, 2) := by decide +kernel
theorem dX5_become_147 : decode cX5_become 147 = .ok (.invokestatic 45, 3) := by decide +kernel
theorem dX5_become_150 : decode cX5_become 150 = .ok (.aload_n 1, 1) := by decide +kernel
theorem dX5_become_151 : decode cX5_become 151 = .ok (.getfield 39, 3) := by decide +kernel
theorem dX5_become_154 : decode cX5_become 154 = .ok (.iconst 0, 1) := by decide +kernel
theorem dX5_become_155 : decode cX5_become 155 = .ok (.aload_n 0, 1) := by decide +kernel
theorem dX5_become_156 : decode cX5_become 156 = .ok (.getfield 39, 3) := by decide +kernel
theorem dX5_become_159 : decode cX5_become 159 = .ok (.iconst 0, 1) := by decide +kernel
theorem dX5_become_160 : decode cX5_become 160 = .ok (.bipush 6, 2) := by decide +kernel
theorem dX5_become_162 : decode cX5_become 162 = .ok (.invokestatic 45, 3) := by decide +kernel
theorem dX5_become_165 : decode cX5_become 165 = .ok (.aload_n 1, 1) := by decide +kernel
theorem dX5_become_166 : decode cX5_become 166 = .ok (.getfield 42, 3) := by decide +kernel
theorem dX5_become_169 : decode cX5_become 169 = .ok (.iconst 0, 1) := by decide +kernel
theorem dX5_become_170 : decode cX5_become 170 = .ok (.aload_n 0, 1) := by decide +kernel
theorem dX5_become_171 : decode cX5_become 171 = .ok (.getfield 42, 3) := by decide +kernel
theorem dX5_become_174 : decode cX5_become 174 = .ok (.iconst 0, 1) := by decide +kernel
theorem dX5_become_175 : decode cX5_become 175 = .ok (.bipush 6, 2) := by decide +kernel
theorem dX5_become_177 : decode cX5_become 177 = .ok (.invokestatic 45, 3) := by decide +kernel
theorem dX5_become_180 : decode cX5_become 180 = .ok (.aload_n 0, 1) := by decide +kernel
theorem dX5_become_181 : decode cX5_become 181 = .ok (.aload_n 1, 1) := by decide +kernel
theorem dX5_become_182 : decode cX5_become 182 = .ok (.getfield 51, 3) := by decide +kernel
theorem dX5_become_185 : decode cX5_become 185 = .ok (.putfield 51, 3) := by decide +kernel
theorem dX5_become_188 : decode cX5_become 188 = .ok (.aload_n 0, 1) := by decide +kernel
theorem dX5_become_189 : decode cX5_become 189 = .ok (.aload_n 1, 1) := by decide +kernel
theorem dX5_become_190 : decode cX5_become 190 = .ok (.getfield 55, 3) := by decide +kernel
theorem dX5_become_193 : decode cX5_become 193 = .ok (.putfield 55, 3) := by decide +kernel
theorem dX5_become_196 : decode cX5_become 196 = .ok (.aload_n 0, 1) := by decide +kernel
theorem dX5_become_197 : decode cX5_become 197 = .ok (.aload_n 1, 1) := by decide +kernel
theorem dX5_become_198 : decode cX5_become 198 = .ok (.getfield 58, 3) := by decide +kernel
theorem dX5_become_201 : decode cX5_become 201 = .ok (.putfield 58, 3) := by decide +kernel
theorem dX5_become_204 : decode cX5_become 204 = .ok (.aload_n 0, 1) := by decide +kernel
theorem dX5_become_205 : decode cX5_become 205 = .ok (.aload_n 1, 1) := by decide +kernel
theorem dX5_become_206 : decode cX5_become 206 = .ok (.getfield 61, 3) := by decide +kernel
theorem dX5_become_209 : decode cX5_become 209 = .ok (.putfield 61, 3) := by decide +kernel
theorem dX5_become_212 : decode cX5_become 212 = .ok (.return_, 1) := by decide +kernel
def xX5_become (t : Nat) (u1 : Nat)  (M : j_M) : Option (j_M) := gc (nI 0) (nI 0) (nI 100) 100 100 (oml (mcp M (u1 + 1) (ix (nI 0)) (t + 1) (ix (nI 0)) (ix (nI 100))) fun M1 => gc (nI 0) (nI 0) (nI 49) 49 49 (oml (mcp M1 (u1 + 2) (ix (nI 0)) (t + 2) (ix (nI 0)) (ix (nI 49))) fun M2 => gc (nI 0) (nI 0) (nI 49) 49 49 (oml (mcp M2 (u1 + 3) (ix (nI 0)) (t + 3) (ix (nI 0)) (ix (nI 49))) fun M3 => gc (nI 0) (nI 0) (nI 49) 49 49 (oml (mcp M3 (u1 + 4) (ix (nI 0)) (t + 4) (ix (nI 0)) (ix (nI 49))) fun M4 => gc (nI 0) (nI 0) (nI 360) 360 360 (oml (mcp M4 (u1 + 5) (ix (nI 0)) (t + 5) (ix (nI 0)) (ix (nI 360))) fun M5 => gc (nI 0) (nI 0) (nI 6) 6 6 (oml (mcp M5 (u1 + 6) (ix (nI 0)) (t + 6) (ix (nI 0)) (ix (nI 6))) fun M6 => gc (nI 0) (nI 0) (nI 6) 6 6 (oml (mcp M6 (u1 + 7) (ix (nI 0)) (t + 7) (ix (nI 0)) (ix (nI 6))) fun M7 => gc (nI 0) (nI 0) (nI 6) 6 6 (oml (mcp M7 (u1 + 8) (ix (nI 0)) (t + 8) (ix (nI 0)) (ix (nI 6))) fun M8 => gc (nI 0) (nI 0) (nI 6) 6 6 (oml (mcp M8 (u1 + 9) (ix (nI 0)) (t + 9) (ix (nI 0)) (ix (nI 6))) fun M9 => gc (nI 0) (nI 0) (nI 6) 6 6 (oml (mcp M9 (u1 + 10) (ix (nI 0)) (t + 10) (ix (nI 0)) (ix (nI 6))) fun M10 => gc (nI 0) (nI 0) (nI 6) 6 6 (oml (mcp M10 (u1 + 11) (ix (nI 0)) (t + 11) (ix (nI 0)) (ix (nI 6))) fun M11 => oli (M11 u1 11) fun v12 => oml (mw M11 t 11 v12) fun M13 => oli (M13 u1 12) fun v14 => oml (mw M13 t 12 v14) fun M15 => oli (M15 u1 13) fun v16 => oml (mw M15 t 13 v16) fun M17 => oli (M17 u1 14) fun v18 => oml (mw M17 t 14 v18) fun M19 => some M19)))))))))))
set_option maxRecDepth 20000 in
set_option maxHeartbeats 2000000 in
theorem tX5_become (t : Nat) (u1 : Nat)  (M : j_M) : J (ρ := j_M) yX5_become cX5_become 2 none 1 30 j_ev 0 [(0, .inr (11, 0, t)), (1, .inr (11, 0, u1))] [] M (xX5_become t u1  M) := by
  unfold xX5_become
  refine K_aload_n (q := 1) 1 dX5_become_0 rfl rfl rfl ?_
  refine K_getR (q := 4) (ci := 1) (a2 := u1 + 1) 0 dX5_become_1 fRX5_9 rfl rfl (by decide) rfl rfl ?_
  refine K_iconst (q := 5) (v := nI 0) dX5_become_4 rfl rfl ?_
  refine K_aload_n (q := 6) 0 dX5_become_5 rfl rfl rfl ?_
  refine K_getR (q := 9) (ci := 1) (a2 := t + 1) 0 dX5_become_6 fRX5_9 rfl rfl (by decide) rfl rfl ?_
  refine K_iconst (q := 10) (v := nI 0) dX5_become_9 rfl rfl ?_
  refine K_aload_n (q := 11) 0 dX5_become_10 rfl rfl rfl ?_
  refine K_getR (q := 14) (ci := 1) (a2 := t + 1) 0 dX5_become_11 fRX5_9 rfl rfl (by decide) rfl rfl ?_
  refine K_alen (q := 15) (v := (nI 100)) dX5_become_14 rfl rfl ?_
  refine K_acopy (q := 18) dX5_become_15 (j_in 1139 (by decide +kernel) (by decide +kernel)) ac_nat ac_stat ac_ini (by decide) (Nat.le_of_ble_eq_true rfl) rfl (fun M1 => ?_)
  refine K_aload_n (q := 19) 1 dX5_become_18 rfl rfl rfl ?_
  refine K_getR (q := 22) (ci := 1) (a2 := u1 + 2) 1 dX5_become_19 fRX5_15 rfl rfl (by decide) rfl rfl ?_
  refine K_iconst (q := 23) (v := nI 0) dX5_become_22 rfl rfl ?_
  refine K_aload_n (q := 24) 0 dX5_become_23 rfl rfl rfl ?_
  refine K_getR (q := 27) (ci := 1) (a2 := t + 2) 1 dX5_become_24 fRX5_15 rfl rfl (by decide) rfl rfl ?_
  refine K_iconst (q := 28) (v := nI 0) dX5_become_27 rfl rfl ?_
  refine K_aload_n (q := 29) 0 dX5_become_28 rfl rfl rfl ?_
  refine K_getR (q := 32) (ci := 1) (a2 := t + 2) 1 dX5_become_29 fRX5_15 rfl rfl (by decide) rfl rfl ?_
  refine K_alen (q := 33) (v := (nI 49)) dX5_become_32 rfl rfl ?_
  refine K_acopy (q := 36) dX5_become_33 (j_in 1139 (by decide +kernel) (by decide +kernel)) ac_nat ac_stat ac_ini (by decide) (Nat.le_of_ble_eq_true rfl) rfl (fun M2 => ?_)
  refine K_aload_n (q := 37) 1 dX5_become_36 rfl rfl rfl ?_
  refine K_getR (q := 40) (ci := 1) (a2 := u1 + 3) 2 dX5_become_37 fRX5_18 rfl rfl (by decide) rfl rfl ?_
  refine K_iconst (q := 41) (v := nI 0) dX5_become_40 rfl rfl ?_
  refine K_aload_n (q := 42) 0 dX5_become_41 rfl rfl rfl ?_
  refine K_getR (q := 45) (ci := 1) (a2 := t + 3) 2 dX5_become_42 fRX5_18 rfl rfl (by decide) rfl rfl ?_
  refine K_iconst (q := 46) (v := nI 0) dX5_become_45 rfl rfl ?_
  refine K_aload_n (q := 47) 0 dX5_become_46 rfl rfl rfl ?_
  refine K_getR (q := 50) (ci := 1) (a2 := t + 3) 2 dX5_become_47 fRX5_18 rfl rfl (by decide) rfl rfl ?_
  refine K_alen (q := 51) (v := (nI 49)) dX5_become_50 rfl rfl ?_
  refine K_acopy (q := 54) dX5_become_51 (j_in 1139 (by decide +kernel) (by decide +kernel)) ac_nat ac_stat ac_ini (by decide) (Nat.le_of_ble_eq_true rfl) rfl (fun M3 => ?_)
  refine K_aload_n (q := 55) 1 dX5_become_54 rfl rfl rfl ?_
  refine K_getR (q := 58) (ci := 1) (a2 := u1 + 4) 3 dX5_become_55 fRX5_21 rfl rfl (by decide) rfl rfl ?_
  refine K_iconst (q := 59) (v := nI 0) dX5_become_58 rfl rfl ?_
  refine K_aload_n (q := 60) 0 dX5_become_59 rfl rfl rfl ?_
  refine K_getR (q := 63) (ci := 1) (a2 := t + 4) 3 dX5_become_60 fRX5_21 rfl rfl (by decide) rfl rfl ?_
  refine K_iconst (q := 64) (v := nI 0) dX5_become_63 rfl rfl ?_
  refine K_aload_n (q := 65) 0 dX5_become_64 rfl rfl rfl ?_
  refine K_getR (q := 68) (ci := 1) (a2 := t + 4) 3 dX5_become_65 fRX5_21 rfl rfl (by decide) rfl rfl ?_
  refine K_alen (q := 69) (v := (nI 49)) dX5_become_68 rfl rfl ?_
  refine K_acopy (q := 72) dX5_become_69 (j_in 1139 (by decide +kernel) (by decide +kernel)) ac_nat ac_stat ac_ini (by decide) (Nat.le_of_ble_eq_true rfl) rfl (fun M4 => ?_)
  refine K_aload_n (q := 73) 1 dX5_become_72 rfl rfl rfl ?_
  refine K_getR (q := 76) (ci := 1) (a2 := u1 + 5) 4 dX5_become_73 fRX5_24 rfl rfl (by decide) rfl rfl ?_
  refine K_iconst (q := 77) (v := nI 0) dX5_become_76 rfl rfl ?_
  refine K_aload_n (q := 78) 0 dX5_become_77 rfl rfl rfl ?_
  refine K_getR (q := 81) (ci := 1) (a2 := t + 5) 4 dX5_become_78 fRX5_24 rfl rfl (by decide) rfl rfl ?_
  refine K_iconst (q := 82) (v := nI 0) dX5_become_81 rfl rfl ?_
  refine K_aload_n (q := 83) 0 dX5_become_82 rfl rfl rfl ?_
  refine K_getR (q := 86) (ci := 1) (a2 := t + 5) 4 dX5_become_83 fRX5_24 rfl rfl (by decide) rfl rfl ?_
  refine K_alen (q := 87) (v := (nI 360)) dX5_become_86 rfl rfl ?_
  refine K_acopy (q := 90) dX5_become_87 (j_in 1139 (by decide +kernel) (by decide +kernel)) ac_nat ac_stat ac_ini (by decide) (Nat.le_of_ble_eq_true rfl) rfl (fun M5 => ?_)
  refine K_aload_n (q := 91) 1 dX5_become_90 rfl rfl rfl ?_
  refine K_getR (q := 94) (ci := 1) (a2 := u1 + 6) 5 dX5_become_91 fRX5_27 rfl rfl (by decide) rfl rfl ?_
  refine K_iconst (q := 95) (v := nI 0) dX5_become_94 rfl rfl ?_
  refine K_aload_n (q := 96) 0 dX5_become_95 rfl rfl rfl ?_
  refine K_getR (q := 99) (ci := 1) (a2 := t + 6) 5 dX5_become_96 fRX5_27 rfl rfl (by decide) rfl rfl ?_
  refine K_iconst (q := 100) (v := nI 0) dX5_become_99 rfl rfl ?_
  refine K_bipush (q := 102) (v := nI 6) dX5_become_100 rfl rfl ?_
  refine K_acopy (q := 105) dX5_become_102 (j_in 1139 (by decide +kernel) (by decide +kernel)) ac_nat ac_stat ac_ini (by decide) (Nat.le_of_ble_eq_true rfl) rfl (fun M6 => ?_)
  refine K_aload_n (q := 106) 1 dX5_become_105 rfl rfl rfl ?_
  refine K_getR (q := 109) (ci := 1) (a2 := u1 + 7) 6 dX5_become_106 fRX5_30 rfl rfl (by decide) rfl rfl ?_
  refine K_iconst (q := 110) (v := nI 0) dX5_become_109 rfl rfl ?_
  refine K_aload_n (q := 111) 0 dX5_become_110 rfl rfl rfl ?_
  refine K_getR (q := 114) (ci := 1) (a2 := t + 7) 6 dX5_become_111 fRX5_30 rfl rfl (by decide) rfl rfl ?_
  refine K_iconst (q := 115) (v := nI 0) dX5_become_114 rfl rfl ?_
  refine K_bipush (q := 117) (v := nI 6) dX5_become_115 rfl rfl ?_
  refine K_acopy (q := 120) dX5_become_117 (j_in 1139 (by decide +kernel) (by decide +kernel)) ac_nat ac_stat ac_ini (by decide) (Nat.le_of_ble_eq_true rfl) rfl (fun M7 => ?_)
  refine K_aload_n (q := 121) 1 dX5_become_120 rfl rfl rfl ?_
  refine K_getR (q := 124) (ci := 1) (a2 := u1 + 8) 7 dX5_become_121 fRX5_33 rfl rfl (by decide) rfl rfl ?_
  refine K_iconst (q := 125) (v := nI 0) dX5_become_124 rfl rfl ?_
  refine K_aload_n (q := 126) 0 dX5_become_125 rfl rfl rfl ?_
  refine K_getR (q := 129) (ci := 1) (a2 := t + 8) 7 dX5_become_126 fRX5_33 rfl rfl (by decide) rfl rfl ?_
  refine K_iconst (q := 130) (v := nI 0) dX5_become_129 rfl rfl ?_
  refine K_bipush (q := 132) (v := nI 6) dX5_become_130 rfl rfl ?_
  refine K_acopy (q := 135) dX5_become_132 (j_in 1139 (by decide +kernel) (by decide +kernel)) ac_nat ac_stat ac_ini (by decide) (Nat.le_of_ble_eq_true rfl) rfl (fun M8 => ?_)
  refine K_aload_n (q := 136) 1 dX5_become_135 rfl rfl rfl ?_
  refine K_getR (q := 139) (ci := 1) (a2 := u1 + 9) 8 dX5_become_136 fRX5_36 rfl rfl (by decide) rfl rfl ?_
  refine K_iconst (q := 140) (v := nI 0) dX5_become_139 rfl rfl ?_
  refine K_aload_n (q := 141) 0 dX5_become_140 rfl rfl rfl ?_
  refine K_getR (q := 144) (ci := 1) (a2 := t + 9) 8 dX5_become_141 fRX5_36 rfl rfl (by decide) rfl rfl ?_
  refine K_iconst (q := 145) (v := nI 0) dX5_become_144 rfl rfl ?_
  refine K_bipush (q := 147) (v := nI 6) dX5_become_145 rfl rfl ?_
  refine K_acopy (q := 150) dX5_become_147 (j_in 1139 (by decide +kernel) (by decide +kernel)) ac_nat ac_stat ac_ini (by decide) (Nat.le_of_ble_eq_true rfl) rfl (fun M9 => ?_)
  refine K_aload_n (q := 151) 1 dX5_become_150 rfl rfl rfl ?_
  refine K_getR (q := 154) (ci := 1) (a2 := u1 + 10) 9 dX5_become_151 fRX5_39 rfl rfl (by decide) rfl rfl ?_
  refine K_iconst (q := 155) (v := nI 0) dX5_become_154 rfl rfl ?_
  refine K_aload_n (q := 156) 0 dX5_become_155 rfl rfl rfl ?_
  refine K_getR (q := 159) (ci := 1) (a2 := t + 10) 9 dX5_become_156 fRX5_39 rfl rfl (by decide) rfl rfl ?_
  refine K_iconst (q := 160) (v := nI 0) dX5_become_159 rfl rfl ?_
  refine K_bipush (q := 162) (v := nI 6) dX5_become_160 rfl rfl ?_
  refine K_acopy (q := 165) dX5_become_162 (j_in 1139 (by decide +kernel) (by decide +kernel)) ac_nat ac_stat ac_ini (by decide) (Nat.le_of_ble_eq_true rfl) rfl (fun M10 => ?_)
  refine K_aload_n (q := 166) 1 dX5_become_165 rfl rfl rfl ?_
  refine K_getR (q := 169) (ci := 1) (a2 := u1 + 11) 10 dX5_become_166 fRX5_42 rfl rfl (by decide) rfl rfl ?_
  refine K_iconst (q := 170) (v := nI 0) dX5_become_169 rfl rfl ?_
  refine K_aload_n (q := 171) 0 dX5_become_170 rfl rfl rfl ?_
  refine K_getR (q := 174) (ci := 1) (a2 := t + 11) 10 dX5_become_171 fRX5_42 rfl rfl (by decide) rfl rfl ?_
  refine K_iconst (q := 175) (v := nI 0) dX5_become_174 rfl rfl ?_
  refine K_bipush (q := 177) (v := nI 6) dX5_become_175 rfl rfl ?_
  refine K_acopy (q := 180) dX5_become_177 (j_in 1139 (by decide +kernel) (by decide +kernel)) ac_nat ac_stat ac_ini (by decide) (Nat.le_of_ble_eq_true rfl) rfl (fun M11 => ?_)
  refine K_aload_n (q := 181) 0 dX5_become_180 rfl rfl rfl ?_
  refine K_aload_n (q := 182) 1 dX5_become_181 rfl rfl rfl ?_
  refine K_getI (q := 185) (ci := 1) 11 dX5_become_182 fRX5_51 rfl rfl rfl (fun v12 => ?_)
  refine K_putI (q := 188) (ci := 1) 11 dX5_become_185 fRX5_51 fp_1_11 rfl rfl (by decide) rfl (fun M13 => ?_)
  refine K_aload_n (q := 189) 0 dX5_become_188 rfl rfl rfl ?_
  refine K_aload_n (q := 190) 1 dX5_become_189 rfl rfl rfl ?_
  refine K_getI (q := 193) (ci := 1) 12 dX5_become_190 fRX5_55 rfl rfl rfl (fun v14 => ?_)
  refine K_putI (q := 196) (ci := 1) 12 dX5_become_193 fRX5_55 fp_1_12 rfl rfl (by decide) rfl (fun M15 => ?_)
  refine K_aload_n (q := 197) 0 dX5_become_196 rfl rfl rfl ?_
  refine K_aload_n (q := 198) 1 dX5_become_197 rfl rfl rfl ?_
  refine K_getI (q := 201) (ci := 1) 13 dX5_become_198 fRX5_58 rfl rfl rfl (fun v16 => ?_)
  refine K_putI (q := 204) (ci := 1) 13 dX5_become_201 fRX5_58 fp_1_13 rfl rfl (by decide) rfl (fun M17 => ?_)
  refine K_aload_n (q := 205) 0 dX5_become_204 rfl rfl rfl ?_
  refine K_aload_n (q := 206) 1 dX5_become_205 rfl rfl rfl ?_
  refine K_getI (q := 209) (ci := 1) 14 dX5_become_206 fRX5_61 rfl rfl rfl (fun v18 => ?_)
  refine K_putI (q := 212) (ci := 1) 14 dX5_become_209 fRX5_61 fp_1_14 rfl rfl (by decide) rfl (fun M19 => ?_)
  exact J_vret dX5_become_212
theorem dX9_become_0 : decode cX9_become 0 = .ok (.aload_n 1, 1) := by decide +kernel
theorem dX9_become_1 : decode cX9_become 1 = .ok (.getfield 9, 3) := by decide +kernel
theorem dX9_become_4 : decode cX9_become 4 = .ok (.iconst 0, 1) := by decide +kernel
theorem dX9_become_5 : decode cX9_become 5 = .ok (.aload_n 0, 1) := by decide +kernel
theorem dX9_become_6 : decode cX9_become 6 = .ok (.getfield 9, 3) := by decide +kernel
theorem dX9_become_9 : decode cX9_become 9 = .ok (.iconst 0, 1) := by decide +kernel
theorem dX9_become_10 : decode cX9_become 10 = .ok (.aload_n 0, 1) := by decide +kernel
theorem dX9_become_11 : decode cX9_become 11 = .ok (.getfield 9, 3) := by decide +kernel
theorem dX9_become_14 : decode cX9_become 14 = .ok (.arraylength, 1) := by decide +kernel
theorem dX9_become_15 : decode cX9_become 15 = .ok (.invokestatic 27, 3) := by decide +kernel
theorem dX9_become_18 : decode cX9_become 18 = .ok (.aload_n 1, 1) := by decide +kernel
theorem dX9_become_19 : decode cX9_become 19 = .ok (.getfield 15, 3) := by decide +kernel
theorem dX9_become_22 : decode cX9_become 22 = .ok (.iconst 0, 1) := by decide +kernel
theorem dX9_become_23 : decode cX9_become 23 = .ok (.aload_n 0, 1) := by decide +kernel
theorem dX9_become_24 : decode cX9_become 24 = .ok (.getfield 15, 3) := by decide +kernel
theorem dX9_become_27 : decode cX9_become 27 = .ok (.iconst 0, 1) := by decide +kernel
theorem dX9_become_28 : decode cX9_become 28 = .ok (.bipush 6, 2) := by decide +kernel
theorem dX9_become_30 : decode cX9_become 30 = .ok (.invokestatic 27, 3) := by decide +kernel
theorem dX9_become_33 : decode cX9_become 33 = .ok (.aload_n 1, 1) := by decide +kernel
theorem dX9_become_34 : decode cX9_become 34 = .ok (.getfield 18, 3) := by decide +kernel
theorem dX9_become_37 : decode cX9_become 37 = .ok (.iconst 0, 1) := by decide +kernel
theorem dX9_become_38 : decode cX9_become 38 = .ok (.aload_n 0, 1) := by decide +kernel
theorem dX9_become_39 : decode cX9_become 39 = .ok (.getfield 18, 3) := by decide +kernel
theorem dX9_become_42 : decode cX9_become 42 = .ok (.iconst 0, 1) := by decide +kernel
theorem dX9_become_43 : decode cX9_become 43 = .ok (.bipush 6, 2) := by decide +kernel
theorem dX9_become_45 : decode cX9_become 45 = .ok (.invokestatic 27, 3) := by decide +kernel
theorem dX9_become_48 : decode cX9_become 48 = .ok (.aload_n 1, 1) := by decide +kernel
theorem dX9_become_49 : decode cX9_become 49 = .ok (.getfield 21, 3) := by decide +kernel
theorem dX9_become_52 : decode cX9_become 52 = .ok (.iconst 0, 1) := by decide +kernel
theorem dX9_become_53 : decode cX9_become 53 = .ok (.aload_n 0, 1) := by decide +kernel
theorem dX9_become_54 : decode cX9_become 54 = .ok (.getfield 21, 3) := by decide +kernel
theorem dX9_become_57 : decode cX9_become 57 = .ok (.iconst 0, 1) := by decide +kernel
theorem dX9_become_58 : decode cX9_become 58 = .ok (.bipush 6, 2) := by decide +kernel
theorem dX9_become_60 : decode cX9_become 60 = .ok (.invokestatic 27, 3) := by decide +kernel
theorem dX9_become_63 : decode cX9_become 63 = .ok (.aload_n 1, 1) := by decide +kernel
theorem dX9_become_64 : decode cX9_become 64 = .ok (.getfield 24, 3) := by decide +kernel
theorem dX9_become_67 : decode cX9_become 67 = .ok (.iconst 0, 1) := by decide +kernel
theorem dX9_become_68 : decode cX9_become 68 = .ok (.aload_n 0, 1) := by decide +kernel
theorem dX9_become_69 : decode cX9_become 69 = .ok (.getfield 24, 3) := by decide +kernel
theorem dX9_become_72 : decode cX9_become 72 = .ok (.iconst 0, 1) := by decide +kernel
theorem dX9_become_73 : decode cX9_become 73 = .ok (.aload_n 0, 1) := by decide +kernel
theorem dX9_become_74 : decode cX9_become 74 = .ok (.getfield 24, 3) := by decide +kernel
theorem dX9_become_77 : decode cX9_become 77 = .ok (.arraylength, 1) := by decide +kernel
theorem dX9_become_78 : decode cX9_become 78 = .ok (.invokestatic 27, 3) := by decide +kernel
theorem dX9_become_81 : decode cX9_become 81 = .ok (.aload_n 0, 1) := by decide +kernel
theorem dX9_become_82 : decode cX9_become 82 = .ok (.aload_n 1, 1) := by decide +kernel
theorem dX9_become_83 : decode cX9_become 83 = .ok (.getfield 33, 3) := by decide +kernel
theorem dX9_become_86 : decode cX9_become 86 = .ok (.putfield 33, 3) := by decide +kernel
theorem dX9_become_89 : decode cX9_become 89 = .ok (.aload_n 0, 1) := by decide +kernel
theorem dX9_become_90 : decode cX9_become 90 = .ok (.aload_n 1, 1) := by decide +kernel
theorem dX9_become_91 : decode cX9_become 91 = .ok (.getfield 37, 3) := by decide +kernel
theorem dX9_become_94 : decode cX9_become 94 = .ok (.putfield 37, 3) := by decide +kernel
theorem dX9_become_97 : decode cX9_become 97 = .ok (.aload_n 0, 1) := by decide +kernel
theorem dX9_become_98 : decode cX9_become 98 = .ok (.aload_n 1, 1) := by decide +kernel
theorem dX9_become_99 : decode cX9_become 99 = .ok (.getfield 40, 3) := by decide +kernel
theorem dX9_become_102 : decode cX9_become 102 = .ok (.putfield 40, 3) := by decide +kernel
theorem dX9_become_105 : decode cX9_become 105 = .ok (.return_, 1) := by decide +kernel
def xX9_become (t : Nat) (u1 : Nat)  (M : j_M) : Option (j_M) := gc (nI 0) (nI 0) (nI 1200) 1200 1200 (oml (mcp M (u1 + 1) (ix (nI 0)) (t + 1) (ix (nI 0)) (ix (nI 1200))) fun M1 => gc (nI 0) (nI 0) (nI 6) 6 6 (oml (mcp M1 (u1 + 2) (ix (nI 0)) (t + 2) (ix (nI 0)) (ix (nI 6))) fun M2 => gc (nI 0) (nI 0) (nI 6) 6 6 (oml (mcp M2 (u1 + 3) (ix (nI 0)) (t + 3) (ix (nI 0)) (ix (nI 6))) fun M3 => gc (nI 0) (nI 0) (nI 6) 6 6 (oml (mcp M3 (u1 + 4) (ix (nI 0)) (t + 4) (ix (nI 0)) (ix (nI 6))) fun M4 => gc (nI 0) (nI 0) (nI 24) 24 24 (oml (mcp M4 (u1 + 5) (ix (nI 0)) (t + 5) (ix (nI 0)) (ix (nI 24))) fun M5 => oli (M5 u1 5) fun v6 => oml (mw M5 t 5 v6) fun M7 => oli (M7 u1 6) fun v8 => oml (mw M7 t 6 v8) fun M9 => oli (M9 u1 7) fun v10 => oml (mw M9 t 7 v10) fun M11 => some M11)))))
set_option maxRecDepth 20000 in
set_option maxHeartbeats 2000000 in
theorem tX9_become (t : Nat) (u1 : Nat)  (M : j_M) : J (ρ := j_M) yX9_become cX9_become 2 none 1 30 j_ev 0 [(0, .inr (14, 0, t)), (1, .inr (14, 0, u1))] [] M (xX9_become t u1  M) := by
  unfold xX9_become
  refine K_aload_n (q := 1) 1 dX9_become_0 rfl rfl rfl ?_
  refine K_getR (q := 4) (ci := 4) (a2 := u1 + 1) 0 dX9_become_1 fRX9_9 rfl rfl (by decide) rfl rfl ?_
  refine K_iconst (q := 5) (v := nI 0) dX9_become_4 rfl rfl ?_
  refine K_aload_n (q := 6) 0 dX9_become_5 rfl rfl rfl ?_
  refine K_getR (q := 9) (ci := 4) (a2 := t + 1) 0 dX9_become_6 fRX9_9 rfl rfl (by decide) rfl rfl ?_
  refine K_iconst (q := 10) (v := nI 0) dX9_become_9 rfl rfl ?_
  refine K_aload_n (q := 11) 0 dX9_become_10 rfl rfl rfl ?_
  refine K_getR (q := 14) (ci := 4) (a2 := t + 1) 0 dX9_become_11 fRX9_9 rfl rfl (by decide) rfl rfl ?_
  refine K_alen (q := 15) (v := (nI 1200)) dX9_become_14 rfl rfl ?_
  refine K_acopy (q := 18) dX9_become_15 (j_in 792 (by decide +kernel) (by decide +kernel)) ac_nat ac_stat ac_ini (by decide) (Nat.le_of_ble_eq_true rfl) rfl (fun M1 => ?_)
  refine K_aload_n (q := 19) 1 dX9_become_18 rfl rfl rfl ?_
  refine K_getR (q := 22) (ci := 4) (a2 := u1 + 2) 1 dX9_become_19 fRX9_15 rfl rfl (by decide) rfl rfl ?_
  refine K_iconst (q := 23) (v := nI 0) dX9_become_22 rfl rfl ?_
  refine K_aload_n (q := 24) 0 dX9_become_23 rfl rfl rfl ?_
  refine K_getR (q := 27) (ci := 4) (a2 := t + 2) 1 dX9_become_24 fRX9_15 rfl rfl (by decide) rfl rfl ?_
  refine K_iconst (q := 28) (v := nI 0) dX9_become_27 rfl rfl ?_
  refine K_bipush (q := 30) (v := nI 6) dX9_become_28 rfl rfl ?_
  refine K_acopy (q := 33) dX9_become_30 (j_in 792 (by decide +kernel) (by decide +kernel)) ac_nat ac_stat ac_ini (by decide) (Nat.le_of_ble_eq_true rfl) rfl (fun M2 => ?_)
  refine K_aload_n (q := 34) 1 dX9_become_33 rfl rfl rfl ?_
  refine K_getR (q := 37) (ci := 4) (a2 := u1 + 3) 2 dX9_become_34 fRX9_18 rfl rfl (by decide) rfl rfl ?_
  refine K_iconst (q := 38) (v := nI 0) dX9_become_37 rfl rfl ?_
  refine K_aload_n (q := 39) 0 dX9_become_38 rfl rfl rfl ?_
  refine K_getR (q := 42) (ci := 4) (a2 := t + 3) 2 dX9_become_39 fRX9_18 rfl rfl (by decide) rfl rfl ?_
  refine K_iconst (q := 43) (v := nI 0) dX9_become_42 rfl rfl ?_
  refine K_bipush (q := 45) (v := nI 6) dX9_become_43 rfl rfl ?_
  refine K_acopy (q := 48) dX9_become_45 (j_in 792 (by decide +kernel) (by decide +kernel)) ac_nat ac_stat ac_ini (by decide) (Nat.le_of_ble_eq_true rfl) rfl (fun M3 => ?_)
  refine K_aload_n (q := 49) 1 dX9_become_48 rfl rfl rfl ?_
  refine K_getR (q := 52) (ci := 4) (a2 := u1 + 4) 3 dX9_become_49 fRX9_21 rfl rfl (by decide) rfl rfl ?_
  refine K_iconst (q := 53) (v := nI 0) dX9_become_52 rfl rfl ?_
  refine K_aload_n (q := 54) 0 dX9_become_53 rfl rfl rfl ?_
  refine K_getR (q := 57) (ci := 4) (a2 := t + 4) 3 dX9_become_54 fRX9_21 rfl rfl (by decide) rfl rfl ?_
  refine K_iconst (q := 58) (v := nI 0) dX9_become_57 rfl rfl ?_
  refine K_bipush (q := 60) (v := nI 6) dX9_become_58 rfl rfl ?_
  refine K_acopy (q := 63) dX9_become_60 (j_in 792 (by decide +kernel) (by decide +kernel)) ac_nat ac_stat ac_ini (by decide) (Nat.le_of_ble_eq_true rfl) rfl (fun M4 => ?_)
  refine K_aload_n (q := 64) 1 dX9_become_63 rfl rfl rfl ?_
  refine K_getR (q := 67) (ci := 4) (a2 := u1 + 5) 4 dX9_become_64 fRX9_24 rfl rfl (by decide) rfl rfl ?_
  refine K_iconst (q := 68) (v := nI 0) dX9_become_67 rfl rfl ?_
  refine K_aload_n (q := 69) 0 dX9_become_68 rfl rfl rfl ?_
  refine K_getR (q := 72) (ci := 4) (a2 := t + 5) 4 dX9_become_69 fRX9_24 rfl rfl (by decide) rfl rfl ?_
  refine K_iconst (q := 73) (v := nI 0) dX9_become_72 rfl rfl ?_
  refine K_aload_n (q := 74) 0 dX9_become_73 rfl rfl rfl ?_
  refine K_getR (q := 77) (ci := 4) (a2 := t + 5) 4 dX9_become_74 fRX9_24 rfl rfl (by decide) rfl rfl ?_
  refine K_alen (q := 78) (v := (nI 24)) dX9_become_77 rfl rfl ?_
  refine K_acopy (q := 81) dX9_become_78 (j_in 792 (by decide +kernel) (by decide +kernel)) ac_nat ac_stat ac_ini (by decide) (Nat.le_of_ble_eq_true rfl) rfl (fun M5 => ?_)
  refine K_aload_n (q := 82) 0 dX9_become_81 rfl rfl rfl ?_
  refine K_aload_n (q := 83) 1 dX9_become_82 rfl rfl rfl ?_
  refine K_getI (q := 86) (ci := 4) 5 dX9_become_83 fRX9_33 rfl rfl rfl (fun v6 => ?_)
  refine K_putI (q := 89) (ci := 4) 5 dX9_become_86 fRX9_33 fp_4_5 rfl rfl (by decide) rfl (fun M7 => ?_)
  refine K_aload_n (q := 90) 0 dX9_become_89 rfl rfl rfl ?_
  refine K_aload_n (q := 91) 1 dX9_become_90 rfl rfl rfl ?_
  refine K_getI (q := 94) (ci := 4) 6 dX9_become_91 fRX9_37 rfl rfl rfl (fun v8 => ?_)
  refine K_putI (q := 97) (ci := 4) 6 dX9_become_94 fRX9_37 fp_4_6 rfl rfl (by decide) rfl (fun M9 => ?_)
  refine K_aload_n (q := 98) 0 dX9_become_97 rfl rfl rfl ?_
  refine K_aload_n (q := 99) 1 dX9_become_98 rfl rfl rfl ?_
  refine K_getI (q := 102) (ci := 4) 7 dX9_become_99 fRX9_40 rfl rfl rfl (fun v10 => ?_)
  refine K_putI (q := 105) (ci := 4) 7 dX9_become_102 fRX9_40 fp_4_7 rfl rfl (by decide) rfl (fun M11 => ?_)
  exact J_vret dX9_become_105
theorem dX5_figure_0 : decode cX5_figure 0 = .ok (.iload_n 1, 1) := by decide +kernel
theorem dX5_figure_1 : decode cX5_figure 1 = .ok (.tableswitch 78 7 12 #[39, 44, 52, 60, 68, 73], 39) := by decide +kernel
theorem dX5_figure_40 : decode cX5_figure 40 = .ok (.aload_n 0, 1) := by decide +kernel
theorem dX5_figure_41 : decode cX5_figure 41 = .ok (.getfield 55, 3) := by decide +kernel
theorem dX5_figure_44 : decode cX5_figure 44 = .ok (.ireturn, 1) := by decide +kernel
theorem dX5_figure_45 : decode cX5_figure 45 = .ok (.aload_n 0, 1) := by decide +kernel
theorem dX5_figure_46 : decode cX5_figure 46 = .ok (.getfield 30, 3) := by decide +kernel
theorem dX5_figure_49 : decode cX5_figure 49 = .ok (.invokestatic 70, 3) := by decide +kernel
theorem dX5_figure_52 : decode cX5_figure 52 = .ok (.ireturn, 1) := by decide +kernel
theorem dX5_figure_53 : decode cX5_figure 53 = .ok (.aload_n 0, 1) := by decide +kernel
theorem dX5_figure_54 : decode cX5_figure 54 = .ok (.getfield 33, 3) := by decide +kernel
theorem dX5_figure_57 : decode cX5_figure 57 = .ok (.invokestatic 70, 3) := by decide +kernel
theorem dX5_figure_60 : decode cX5_figure 60 = .ok (.ireturn, 1) := by decide +kernel
theorem dX5_figure_61 : decode cX5_figure 61 = .ok (.aload_n 0, 1) := by decide +kernel
theorem dX5_figure_62 : decode cX5_figure 62 = .ok (.getfield 42, 3) := by decide +kernel
theorem dX5_figure_65 : decode cX5_figure 65 = .ok (.invokestatic 70, 3) := by decide +kernel
theorem dX5_figure_68 : decode cX5_figure 68 = .ok (.ireturn, 1) := by decide +kernel
theorem dX5_figure_69 : decode cX5_figure 69 = .ok (.aload_n 0, 1) := by decide +kernel
theorem dX5_figure_70 : decode cX5_figure 70 = .ok (.getfield 58, 3) := by decide +kernel
theorem dX5_figure_73 : decode cX5_figure 73 = .ok (.ireturn, 1) := by decide +kernel
theorem dX5_figure_74 : decode cX5_figure 74 = .ok (.aload_n 0, 1) := by decide +kernel
theorem dX5_figure_75 : decode cX5_figure 75 = .ok (.getfield 61, 3) := by decide +kernel
theorem dX5_figure_78 : decode cX5_figure 78 = .ok (.ireturn, 1) := by decide +kernel
theorem dX5_figure_79 : decode cX5_figure 79 = .ok (.aload_n 0, 1) := by decide +kernel
theorem dX5_figure_80 : decode cX5_figure 80 = .ok (.getfield 51, 3) := by decide +kernel
theorem dX5_figure_83 : decode cX5_figure 83 = .ok (.ireturn, 1) := by decide +kernel
def xX5_figure (t : Nat) (l1 : Int32) (M : j_M) : Option (Int32 × j_M) := osw l1 [((nI 7), oli (M t 12) fun v1 => some (v1, M)), ((nI 8), obi (xX5_sum 6 (t + 7) M) fun v3 M2 => some (v3, M2)), ((nI 9), obi (xX5_sum 6 (t + 8) M) fun v5 M4 => some (v5, M4)), ((nI 10), obi (xX5_sum 6 (t + 11) M) fun v7 M6 => some (v7, M6)), ((nI 11), oli (M t 13) fun v8 => some (v8, M)), ((nI 12), oli (M t 14) fun v9 => some (v9, M))] (oli (M t 11) fun v10 => some (v10, M))
set_option maxRecDepth 20000 in
set_option maxHeartbeats 2000000 in
theorem tX5_figure (t : Nat) (l1 : Int32) (M : j_M) : J (ρ := Int32 × j_M) yX5_figure cX5_figure 2 (some .int) 1 22 j_ei 0 [(0, .inr (11, 0, t)), (1, .inl (l1))] [] M (xX5_figure t l1 M) := by
  unfold xX5_figure
  refine K_iload_n (q := 1) 1 dX5_figure_0 rfl rfl rfl ?_
  refine K_tsw (dt := 79) [40, 45, 53, 61, 69, 74] dX5_figure_1 rfl rfl rfl rfl ⟨?_, ?_, ?_, ?_, ?_, ?_, trivial⟩ ?_
  · refine K_aload_n (q := 41) 0 dX5_figure_40 rfl rfl rfl ?_
    refine K_getI (q := 44) (ci := 1) 12 dX5_figure_41 fRX5_55 rfl rfl rfl (fun v1 => ?_)
    exact J_iret dX5_figure_44
  · refine K_aload_n (q := 46) 0 dX5_figure_45 rfl rfl rfl ?_
    refine K_getR (q := 49) (ci := 1) (a2 := t + 7) 6 dX5_figure_46 fRX5_30 rfl rfl (by decide) rfl rfl ?_
    refine K_csi (q := 52) [.inr (1, 6, t + 7)] dX5_figure_49 cb_X5_sum cvRX5_70 rfl (Nat.le_of_ble_eq_true rfl) ⟨by decide, by decide⟩ (Nat.le_of_ble_eq_true rfl) rfl (tX5_sum 6 (t + 7) M) rfl (fun v3 M2 => ?_)
    exact J_iret dX5_figure_52
  · refine K_aload_n (q := 54) 0 dX5_figure_53 rfl rfl rfl ?_
    refine K_getR (q := 57) (ci := 1) (a2 := t + 8) 7 dX5_figure_54 fRX5_33 rfl rfl (by decide) rfl rfl ?_
    refine K_csi (q := 60) [.inr (1, 6, t + 8)] dX5_figure_57 cb_X5_sum cvRX5_70 rfl (Nat.le_of_ble_eq_true rfl) ⟨by decide, by decide⟩ (Nat.le_of_ble_eq_true rfl) rfl (tX5_sum 6 (t + 8) M) rfl (fun v5 M4 => ?_)
    exact J_iret dX5_figure_60
  · refine K_aload_n (q := 62) 0 dX5_figure_61 rfl rfl rfl ?_
    refine K_getR (q := 65) (ci := 1) (a2 := t + 11) 10 dX5_figure_62 fRX5_42 rfl rfl (by decide) rfl rfl ?_
    refine K_csi (q := 68) [.inr (1, 6, t + 11)] dX5_figure_65 cb_X5_sum cvRX5_70 rfl (Nat.le_of_ble_eq_true rfl) ⟨by decide, by decide⟩ (Nat.le_of_ble_eq_true rfl) rfl (tX5_sum 6 (t + 11) M) rfl (fun v7 M6 => ?_)
    exact J_iret dX5_figure_68
  · refine K_aload_n (q := 70) 0 dX5_figure_69 rfl rfl rfl ?_
    refine K_getI (q := 73) (ci := 1) 13 dX5_figure_70 fRX5_58 rfl rfl rfl (fun v8 => ?_)
    exact J_iret dX5_figure_73
  · refine K_aload_n (q := 75) 0 dX5_figure_74 rfl rfl rfl ?_
    refine K_getI (q := 78) (ci := 1) 14 dX5_figure_75 fRX5_61 rfl rfl rfl (fun v9 => ?_)
    exact J_iret dX5_figure_78
  · refine K_aload_n (q := 80) 0 dX5_figure_79 rfl rfl rfl ?_
    refine K_getI (q := 83) (ci := 1) 11 dX5_figure_80 fRX5_51 rfl rfl rfl (fun v10 => ?_)
    exact J_iret dX5_figure_83
theorem dX9_takePlan_0 : decode cX9_takePlan 0 = .ok (.aload_n 1, 1) := by decide +kernel
theorem dX9_takePlan_1 : decode cX9_takePlan 1 = .ok (.iconst 0, 1) := by decide +kernel
theorem dX9_takePlan_2 : decode cX9_takePlan 2 = .ok (.aload_n 0, 1) := by decide +kernel
theorem dX9_takePlan_3 : decode cX9_takePlan 3 = .ok (.getfield 24, 3) := by decide +kernel
theorem dX9_takePlan_6 : decode cX9_takePlan 6 = .ok (.iconst 0, 1) := by decide +kernel
theorem dX9_takePlan_7 : decode cX9_takePlan 7 = .ok (.iload_n 2, 1) := by decide +kernel
theorem dX9_takePlan_8 : decode cX9_takePlan 8 = .ok (.invokestatic 27, 3) := by decide +kernel
theorem dX9_takePlan_11 : decode cX9_takePlan 11 = .ok (.aload_n 0, 1) := by decide +kernel
theorem dX9_takePlan_12 : decode cX9_takePlan 12 = .ok (.iload_n 2, 1) := by decide +kernel
theorem dX9_takePlan_13 : decode cX9_takePlan 13 = .ok (.putfield 33, 3) := by decide +kernel
theorem dX9_takePlan_16 : decode cX9_takePlan 16 = .ok (.aload_n 0, 1) := by decide +kernel
theorem dX9_takePlan_17 : decode cX9_takePlan 17 = .ok (.iconst 0, 1) := by decide +kernel
theorem dX9_takePlan_18 : decode cX9_takePlan 18 = .ok (.putfield 37, 3) := by decide +kernel
theorem dX9_takePlan_21 : decode cX9_takePlan 21 = .ok (.return_, 1) := by decide +kernel
def xX9_takePlan (t : Nat) (n1 : Nat) (u1 : Nat) (l2 : Int32) (M : j_M) : Option (j_M) := gc (nI 0) (nI 0) l2 n1 24 (oml (mcp M u1 (ix (nI 0)) (t + 5) (ix (nI 0)) (ix l2)) fun M1 => oml (mw M1 t 5 l2) fun M2 => oml (mw M2 t 6 (nI 0)) fun M3 => some M3)
set_option maxRecDepth 20000 in
set_option maxHeartbeats 2000000 in
theorem tX9_takePlan (t : Nat) (n1 : Nat) (u1 : Nat) (l2 : Int32) (M : j_M) : J (ρ := j_M) yX9_takePlan cX9_takePlan 3 none 1 30 j_ev 0 [(0, .inr (14, 0, t)), (1, .inr (1, n1, u1)), (2, .inl (l2))] [] M (xX9_takePlan t n1 u1 l2 M) := by
  unfold xX9_takePlan
  refine K_aload_n (q := 1) 1 dX9_takePlan_0 rfl rfl rfl ?_
  refine K_iconst (q := 2) (v := nI 0) dX9_takePlan_1 rfl rfl ?_
  refine K_aload_n (q := 3) 0 dX9_takePlan_2 rfl rfl rfl ?_
  refine K_getR (q := 6) (ci := 4) (a2 := t + 5) 4 dX9_takePlan_3 fRX9_24 rfl rfl (by decide) rfl rfl ?_
  refine K_iconst (q := 7) (v := nI 0) dX9_takePlan_6 rfl rfl ?_
  refine K_iload_n (q := 8) 2 dX9_takePlan_7 rfl rfl rfl ?_
  refine K_acopy (q := 11) dX9_takePlan_8 (j_in 792 (by decide +kernel) (by decide +kernel)) ac_nat ac_stat ac_ini (by decide) (Nat.le_of_ble_eq_true rfl) rfl (fun M1 => ?_)
  refine K_aload_n (q := 12) 0 dX9_takePlan_11 rfl rfl rfl ?_
  refine K_iload_n (q := 13) 2 dX9_takePlan_12 rfl rfl rfl ?_
  refine K_putI (q := 16) (ci := 4) 5 dX9_takePlan_13 fRX9_33 fp_4_5 rfl rfl (by decide) rfl (fun M2 => ?_)
  refine K_aload_n (q := 17) 0 dX9_takePlan_16 rfl rfl rfl ?_
  refine K_iconst (q := 18) (v := nI 0) dX9_takePlan_17 rfl rfl ?_
  refine K_putI (q := 21) (ci := 4) 6 dX9_takePlan_18 fRX9_37 fp_4_6 rfl rfl (by decide) rfl (fun M3 => ?_)
  exact J_vret dX9_takePlan_21
theorem dX9_takeProgram_0 : decode cX9_takeProgram 0 = .ok (.aload_n 2, 1) := by decide +kernel
theorem dX9_takeProgram_1 : decode cX9_takeProgram 1 = .ok (.iconst 0, 1) := by decide +kernel
theorem dX9_takeProgram_2 : decode cX9_takeProgram 2 = .ok (.aload_n 0, 1) := by decide +kernel
theorem dX9_takeProgram_3 : decode cX9_takeProgram 3 = .ok (.getfield 9, 3) := by decide +kernel
theorem dX9_takeProgram_6 : decode cX9_takeProgram 6 = .ok (.iload_n 1, 1) := by decide +kernel
theorem dX9_takeProgram_7 : decode cX9_takeProgram 7 = .ok (.sipush 200, 3) := by decide +kernel
theorem dX9_takeProgram_10 : decode cX9_takeProgram 10 = .ok (.imul, 1) := by decide +kernel
theorem dX9_takeProgram_11 : decode cX9_takeProgram 11 = .ok (.iload_n 3, 1) := by decide +kernel
theorem dX9_takeProgram_12 : decode cX9_takeProgram 12 = .ok (.invokestatic 27, 3) := by decide +kernel
theorem dX9_takeProgram_15 : decode cX9_takeProgram 15 = .ok (.aload_n 0, 1) := by decide +kernel
theorem dX9_takeProgram_16 : decode cX9_takeProgram 16 = .ok (.getfield 15, 3) := by decide +kernel
theorem dX9_takeProgram_19 : decode cX9_takeProgram 19 = .ok (.iload_n 1, 1) := by decide +kernel
theorem dX9_takeProgram_20 : decode cX9_takeProgram 20 = .ok (.iload_n 3, 1) := by decide +kernel
theorem dX9_takeProgram_21 : decode cX9_takeProgram 21 = .ok (.iastore, 1) := by decide +kernel
theorem dX9_takeProgram_22 : decode cX9_takeProgram 22 = .ok (.aload_n 0, 1) := by decide +kernel
theorem dX9_takeProgram_23 : decode cX9_takeProgram 23 = .ok (.getfield 18, 3) := by decide +kernel
theorem dX9_takeProgram_26 : decode cX9_takeProgram 26 = .ok (.iload_n 1, 1) := by decide +kernel
theorem dX9_takeProgram_27 : decode cX9_takeProgram 27 = .ok (.iconst 0, 1) := by decide +kernel
theorem dX9_takeProgram_28 : decode cX9_takeProgram 28 = .ok (.iastore, 1) := by decide +kernel
theorem dX9_takeProgram_29 : decode cX9_takeProgram 29 = .ok (.return_, 1) := by decide +kernel
def xX9_takeProgram (t : Nat) (n2 : Nat) (u2 : Nat) (l1 : Int32) (l3 : Int32) (M : j_M) : Option (j_M) := gc (nI 0) (l1 * (nI 200)) l3 n2 1200 (oml (mcp M u2 (ix (nI 0)) (t + 1) (ix (l1 * (nI 200))) (ix l3)) fun M1 => gd l1 6 (oml (mw M1 (t + 2) (ix l1) l3) fun M2 => gd l1 6 (oml (mw M2 (t + 3) (ix l1) (nI 0)) fun M3 => some M3)))
set_option maxRecDepth 20000 in
set_option maxHeartbeats 2000000 in
theorem tX9_takeProgram (t : Nat) (n2 : Nat) (u2 : Nat) (l1 : Int32) (l3 : Int32) (M : j_M) : J (ρ := j_M) yX9_takeProgram cX9_takeProgram 4 none 1 30 j_ev 0 [(0, .inr (14, 0, t)), (1, .inl (l1)), (2, .inr (1, n2, u2)), (3, .inl (l3))] [] M (xX9_takeProgram t n2 u2 l1 l3 M) := by
  unfold xX9_takeProgram
  refine K_aload_n (q := 1) 2 dX9_takeProgram_0 rfl rfl rfl ?_
  refine K_iconst (q := 2) (v := nI 0) dX9_takeProgram_1 rfl rfl ?_
  refine K_aload_n (q := 3) 0 dX9_takeProgram_2 rfl rfl rfl ?_
  refine K_getR (q := 6) (ci := 4) (a2 := t + 1) 0 dX9_takeProgram_3 fRX9_9 rfl rfl (by decide) rfl rfl ?_
  refine K_iload_n (q := 7) 1 dX9_takeProgram_6 rfl rfl rfl ?_
  refine K_sipush (q := 10) (v := nI 200) dX9_takeProgram_7 rfl rfl ?_
  refine K_imul (q := 11) dX9_takeProgram_10 rfl ?_
  refine K_iload_n (q := 12) 3 dX9_takeProgram_11 rfl rfl rfl ?_
  refine K_acopy (q := 15) dX9_takeProgram_12 (j_in 792 (by decide +kernel) (by decide +kernel)) ac_nat ac_stat ac_ini (by decide) (Nat.le_of_ble_eq_true rfl) rfl (fun M1 => ?_)
  refine K_aload_n (q := 16) 0 dX9_takeProgram_15 rfl rfl rfl ?_
  refine K_getR (q := 19) (ci := 4) (a2 := t + 2) 1 dX9_takeProgram_16 fRX9_15 rfl rfl (by decide) rfl rfl ?_
  refine K_iload_n (q := 20) 1 dX9_takeProgram_19 rfl rfl rfl ?_
  refine K_iload_n (q := 21) 3 dX9_takeProgram_20 rfl rfl rfl ?_
  refine K_iast (q := 22) dX9_takeProgram_21 rfl (fun M2 => ?_)
  refine K_aload_n (q := 23) 0 dX9_takeProgram_22 rfl rfl rfl ?_
  refine K_getR (q := 26) (ci := 4) (a2 := t + 3) 2 dX9_takeProgram_23 fRX9_18 rfl rfl (by decide) rfl rfl ?_
  refine K_iload_n (q := 27) 1 dX9_takeProgram_26 rfl rfl rfl ?_
  refine K_iconst (q := 28) (v := nI 0) dX9_takeProgram_27 rfl rfl ?_
  refine K_iast (q := 29) dX9_takeProgram_28 rfl (fun M3 => ?_)
  exact J_vret dX9_takeProgram_29
