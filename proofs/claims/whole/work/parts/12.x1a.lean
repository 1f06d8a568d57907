theorem ws_in0 : ∀ w ∈ u_ws RX1 TX1 15, w ∈ j_ws := j_in_r _ [255, 257, 259, 261, 263, 265, 267, 269, 271, 273, 275, 277, 279, 281, 283] (by decide +kernel) (by decide +kernel)
theorem fRX1_64 : j_F RX1 64 0 8 := ⟨RX1, TX1, 15, rfl, by decide, ws_in0, j_in 240 (by decide +kernel) (by decide +kernel)⟩
theorem fRX1_15 : j_F RX1 15 0 2 := ⟨RX1, TX1, 15, rfl, by decide, ws_in0, j_in 227 (by decide +kernel) (by decide +kernel)⟩
theorem cvRX1_159 : j_CS RX1 159 yX4_kind := ⟨Or.inl (j_in 519 (by decide +kernel) (by decide +kernel)), j_in 520 (by decide +kernel) (by decide +kernel)⟩
theorem fRX1_11 : j_F RX1 11 0 1 := ⟨RX1, TX1, 15, rfl, by decide, ws_in0, j_in 225 (by decide +kernel) (by decide +kernel)⟩
theorem cb_X1_blockOf : j_CB yX1_blockOf cX1_blockOf 1 (some .int) 1 := ⟨by decide +kernel, j_in 433 (by decide +kernel) (by decide +kernel), j_in 110 (by decide +kernel) (by decide +kernel), by decide +kernel, by decide +kernel, by decide +kernel⟩
theorem cvRX1_73 : j_CS RX1 73 yX1_blockOf := ⟨Or.inl (j_in 431 (by decide +kernel) (by decide +kernel)), j_in 432 (by decide +kernel) (by decide +kernel)⟩
theorem fp_0_8 : j_FP 0 8 .int := ⟨RX1, TX1, 15, tyX1, rfl, tyX1_ok, nmX1, rfl, by decide +kernel⟩
theorem fRX1_46 : j_F RX1 46 0 0 := ⟨RX1, TX1, 15, rfl, by decide, ws_in0, j_in 224 (by decide +kernel) (by decide +kernel)⟩
theorem fRX1_164 : j_F RX1 164 1 1 := ⟨RX5, TX5, 15, rfl, by decide, ws_in1, j_in 150 (by decide +kernel) (by decide +kernel)⟩
theorem fRX1_167 : j_F RX1 167 1 2 := ⟨RX5, TX5, 15, rfl, by decide, ws_in1, j_in 153 (by decide +kernel) (by decide +kernel)⟩
theorem fRX1_170 : j_F RX1 170 1 3 := ⟨RX5, TX5, 15, rfl, by decide, ws_in1, j_in 156 (by decide +kernel) (by decide +kernel)⟩
theorem fRX1_33 : j_F RX1 33 0 9 := ⟨RX1, TX1, 15, rfl, by decide, ws_in0, j_in 243 (by decide +kernel) (by decide +kernel)⟩
theorem fRX1_67 : j_F RX1 67 0 12 := ⟨RX1, TX1, 15, rfl, by decide, ws_in0, j_in 250 (by decide +kernel) (by decide +kernel)⟩
theorem fRX1_24 : j_F RX1 24 0 5 := ⟨RX1, TX1, 15, rfl, by decide, ws_in0, j_in 234 (by decide +kernel) (by decide +kernel)⟩
theorem fRX1_18 : j_F RX1 18 0 3 := ⟨RX1, TX1, 15, rfl, by decide, ws_in0, j_in 230 (by decide +kernel) (by decide +kernel)⟩
theorem fRX1_21 : j_F RX1 21 0 4 := ⟨RX1, TX1, 15, rfl, by decide, ws_in0, j_in 232 (by decide +kernel) (by decide +kernel)⟩
theorem fRX1_37 : j_F RX1 37 0 10 := ⟨RX1, TX1, 15, rfl, by decide, ws_in0, j_in 246 (by decide +kernel) (by decide +kernel)⟩
theorem cb_X3_isValid : j_CB yX3_isValid cX3_isValid 1 (some .boolean) 1 := ⟨by decide +kernel, j_in 475 (by decide +kernel) (by decide +kernel), j_in 115 (by decide +kernel) (by decide +kernel), by decide +kernel, by decide +kernel, by decide +kernel⟩
theorem cvRX1_99 : j_CS RX1 99 yX3_isValid := ⟨Or.inl (j_in 473 (by decide +kernel) (by decide +kernel)), j_in 474 (by decide +kernel) (by decide +kernel)⟩
theorem cb_X3_count : j_CB yX3_count cX3_count 1 (some .int) 1 := ⟨by decide +kernel, j_in 426 (by decide +kernel) (by decide +kernel), j_in 115 (by decide +kernel) (by decide +kernel), by decide +kernel, by decide +kernel, by decide +kernel⟩
theorem cvRX1_82 : j_CS RX1 82 yX3_count := ⟨Or.inl (j_in 424 (by decide +kernel) (by decide +kernel)), j_in 425 (by decide +kernel) (by decide +kernel)⟩
theorem cb_X1_isCpu : j_CB yX1_isCpu cX1_isCpu 2 (some .boolean) 1 := ⟨by decide +kernel, j_in 461 (by decide +kernel) (by decide +kernel), j_in 110 (by decide +kernel) (by decide +kernel), by decide +kernel, by decide +kernel, by decide +kernel⟩
theorem cvRX1_92 : j_CV RX1 92 yX1_isCpu := ⟨Or.inl (j_in 458 (by decide +kernel) (by decide +kernel)), j_in 459 (by decide +kernel) (by decide +kernel), j_in 460 (by decide +kernel) (by decide +kernel)⟩
theorem cb_X11_isLine : j_CB yX11_isLine cX11_isLine 1 (some .boolean) 1 := ⟨by decide +kernel, j_in 464 (by decide +kernel) (by decide +kernel), j_in 107 (by decide +kernel) (by decide +kernel), by decide +kernel, by decide +kernel, by decide +kernel⟩
theorem cvRX1_96 : j_CS RX1 96 yX11_isLine := ⟨Or.inr ⟨RX11, by decide +kernel⟩, j_in 463 (by decide +kernel) (by decide +kernel)⟩
theorem cb_X1_missOf : j_CB yX1_missOf cX1_missOf 2 (some .int) 1 := ⟨by decide +kernel, j_in 430 (by decide +kernel) (by decide +kernel), j_in 110 (by decide +kernel) (by decide +kernel), by decide +kernel, by decide +kernel, by decide +kernel⟩
theorem cvRX1_85 : j_CV RX1 85 yX1_missOf := ⟨Or.inl (j_in 427 (by decide +kernel) (by decide +kernel)), j_in 428 (by decide +kernel) (by decide +kernel), j_in 429 (by decide +kernel) (by decide +kernel)⟩
theorem cb_X3_data : j_CB yX3_data cX3_data 1 (some .int) 1 := ⟨by decide +kernel, j_in 486 (by decide +kernel) (by decide +kernel), j_in 115 (by decide +kernel) (by decide +kernel), by decide +kernel, by decide +kernel, by decide +kernel⟩
theorem cvRX1_127 : j_CS RX1 127 yX3_data := ⟨Or.inl (j_in 484 (by decide +kernel) (by decide +kernel)), j_in 485 (by decide +kernel) (by decide +kernel)⟩
theorem cb_X1_reorder : j_CB yX1_reorder cX1_reorder 10 none 3 := ⟨by decide +kernel, j_in 497 (by decide +kernel) (by decide +kernel), j_in 110 (by decide +kernel) (by decide +kernel), by decide +kernel, by decide +kernel, by decide +kernel⟩
theorem cvRX1_138 : j_CV RX1 138 yX1_reorder := ⟨Or.inl (j_in 494 (by decide +kernel) (by decide +kernel)), j_in 495 (by decide +kernel) (by decide +kernel), j_in 496 (by decide +kernel) (by decide +kernel)⟩
theorem cb_X1_post : j_CB yX1_post cX1_post 7 none 5 := ⟨by decide +kernel, j_in 525 (by decide +kernel) (by decide +kernel), j_in 110 (by decide +kernel) (by decide +kernel), by decide +kernel, by decide +kernel, by decide +kernel⟩
theorem cvRX1_152 : j_CV RX1 152 yX1_post := ⟨Or.inl (j_in 522 (by decide +kernel) (by decide +kernel)), j_in 523 (by decide +kernel) (by decide +kernel), j_in 524 (by decide +kernel) (by decide +kernel)⟩
theorem cb_X2_isActiveFor : j_CB yX2_isActiveFor cX2_isActiveFor 2 (some .boolean) 2 := ⟨by decide +kernel, j_in 595 (by decide +kernel) (by decide +kernel), j_in 119 (by decide +kernel) (by decide +kernel), by decide +kernel, by decide +kernel, by decide +kernel⟩
theorem cvRX1_259 : j_CS RX1 259 yX2_isActiveFor := ⟨Or.inl (j_in 593 (by decide +kernel) (by decide +kernel)), j_in 594 (by decide +kernel) (by decide +kernel)⟩
theorem cb_X1_turnAt : j_CB yX1_turnAt cX1_turnAt 5 (some .int) 2 := ⟨by decide +kernel, j_in 592 (by decide +kernel) (by decide +kernel), j_in 110 (by decide +kernel) (by decide +kernel), by decide +kernel, by decide +kernel, by decide +kernel⟩
theorem cvRX1_224 : j_CV RX1 224 yX1_turnAt := ⟨Or.inl (j_in 589 (by decide +kernel) (by decide +kernel)), j_in 590 (by decide +kernel) (by decide +kernel), j_in 591 (by decide +kernel) (by decide +kernel)⟩
theorem cb_X1_heldAt : j_CB yX1_heldAt cX1_heldAt 3 (some .int) 2 := ⟨by decide +kernel, j_in 549 (by decide +kernel) (by decide +kernel), j_in 110 (by decide +kernel) (by decide +kernel), by decide +kernel, by decide +kernel, by decide +kernel⟩
theorem cvRX1_176 : j_CV RX1 176 yX1_heldAt := ⟨Or.inl (j_in 546 (by decide +kernel) (by decide +kernel)), j_in 547 (by decide +kernel) (by decide +kernel), j_in 548 (by decide +kernel) (by decide +kernel)⟩
theorem cb_X3_isOwner : j_CB yX3_isOwner cX3_isOwner 1 (some .boolean) 1 := ⟨by decide +kernel, j_in 556 (by decide +kernel) (by decide +kernel), j_in 115 (by decide +kernel) (by decide +kernel), by decide +kernel, by decide +kernel, by decide +kernel⟩
theorem cvRX1_182 : j_CS RX1 182 yX3_isOwner := ⟨Or.inl (j_in 554 (by decide +kernel) (by decide +kernel)), j_in 555 (by decide +kernel) (by decide +kernel)⟩
theorem cb_X1_entryAt : j_CB yX1_entryAt cX1_entryAt 3 (some .int) 2 := ⟨by decide +kernel, j_in 631 (by decide +kernel) (by decide +kernel), j_in 110 (by decide +kernel) (by decide +kernel), by decide +kernel, by decide +kernel, by decide +kernel⟩
theorem cvRX1_248 : j_CV RX1 248 yX1_entryAt := ⟨Or.inl (j_in 628 (by decide +kernel) (by decide +kernel)), j_in 629 (by decide +kernel) (by decide +kernel), j_in 630 (by decide +kernel) (by decide +kernel)⟩
theorem cb_X2_what : j_CB yX2_what cX2_what 1 (some .int) 1 := ⟨by decide +kernel, j_in 645 (by decide +kernel) (by decide +kernel), j_in 119 (by decide +kernel) (by decide +kernel), by decide +kernel, by decide +kernel, by decide +kernel⟩
theorem cvRX1_263 : j_CS RX1 263 yX2_what := ⟨Or.inl (j_in 643 (by decide +kernel) (by decide +kernel)), j_in 644 (by decide +kernel) (by decide +kernel)⟩
theorem cb_X1_hand : j_CB yX1_hand cX1_hand 11 none 6 := ⟨by decide +kernel, j_in 560 (by decide +kernel) (by decide +kernel), j_in 110 (by decide +kernel) (by decide +kernel), by decide +kernel, by decide +kernel, by decide +kernel⟩
theorem cvRX1_188 : j_CV RX1 188 yX1_hand := ⟨Or.inl (j_in 557 (by decide +kernel) (by decide +kernel)), j_in 558 (by decide +kernel) (by decide +kernel), j_in 559 (by decide +kernel) (by decide +kernel)⟩
theorem cb_X7_line : j_CB yX7_line cX7_line 1 (some .int) 1 := ⟨by decide +kernel, j_in 507 (by decide +kernel) (by decide +kernel), j_in 116 (by decide +kernel) (by decide +kernel), by decide +kernel, by decide +kernel, by decide +kernel⟩
theorem cvRX1_77 : j_CS RX1 77 yX7_line := ⟨Or.inl (j_in 505 (by decide +kernel) (by decide +kernel)), j_in 506 (by decide +kernel) (by decide +kernel)⟩
theorem fRX1_70 : j_F RX1 70 0 14 := ⟨RX1, TX1, 15, rfl, by decide, ws_in0, j_in 252 (by decide +kernel) (by decide +kernel)⟩
theorem fp_0_12 : j_FP 0 12 .int := ⟨RX1, TX1, 15, tyX1, rfl, tyX1_ok, nmX1, rfl, by decide +kernel⟩
theorem cb_X1_isAllHome : j_CB yX1_isAllHome cX1_isAllHome 3 (some .boolean) 0 := ⟨by decide +kernel, j_in 423 (by decide +kernel) (by decide +kernel), j_in 110 (by decide +kernel) (by decide +kernel), by decide +kernel, by decide +kernel, by decide +kernel⟩
theorem cvRX1_88 : j_CV RX1 88 yX1_isAllHome := ⟨Or.inl (j_in 420 (by decide +kernel) (by decide +kernel)), j_in 421 (by decide +kernel) (by decide +kernel), j_in 422 (by decide +kernel) (by decide +kernel)⟩
theorem fp_0_9 : j_FP 0 9 .int := ⟨RX1, TX1, 15, tyX1, rfl, tyX1_ok, nmX1, rfl, by decide +kernel⟩
theorem fRX1_43 : j_F RX1 43 0 13 := ⟨RX1, TX1, 15, rfl, by decide, ws_in0, j_in 251 (by decide +kernel) (by decide +kernel)⟩
theorem fp_0_13 : j_FP 0 13 .int := ⟨RX1, TX1, 15, tyX1, rfl, tyX1_ok, nmX1, rfl, by decide +kernel⟩
theorem fRX1_40 : j_F RX1 40 0 11 := ⟨RX1, TX1, 15, rfl, by decide, ws_in0, j_in 248 (by decide +kernel) (by decide +kernel)⟩
theorem fp_0_11 : j_FP 0 11 .int := ⟨RX1, TX1, 15, tyX1, rfl, tyX1_ok, nmX1, rfl, by decide +kernel⟩
theorem fp_0_10 : j_FP 0 10 .int := ⟨RX1, TX1, 15, tyX1, rfl, tyX1_ok, nmX1, rfl, by decide +kernel⟩
theorem dX1_askingOnWay_0 : decode cX1_askingOnWay 0 = .ok (.iconst 0, 1) := by decide +kernel
theorem dX1_askingOnWay_1 : decode cX1_askingOnWay 1 = .ok (.istore_n 1, 1) := by decide +kernel
theorem dX1_askingOnWay_2 : decode cX1_askingOnWay 2 = .ok (.iconst 0, 1) := by decide +kernel
theorem dX1_askingOnWay_3 : decode cX1_askingOnWay 3 = .ok (.istore_n 2, 1) := by decide +kernel
theorem dX1_askingOnWay_4 : decode cX1_askingOnWay 4 = .ok (.iload_n 2, 1) := by decide +kernel
theorem dX1_askingOnWay_5 : decode cX1_askingOnWay 5 = .ok (.aload_n 0, 1) := by decide +kernel
theorem dX1_askingOnWay_6 : decode cX1_askingOnWay 6 = .ok (.getfield 64, 3) := by decide +kernel
theorem dX1_askingOnWay_9 : decode cX1_askingOnWay 9 = .ok (.if_icmp .ge 25, 3) := by decide +kernel
theorem dX1_askingOnWay_12 : decode cX1_askingOnWay 12 = .ok (.aload_n 0, 1) := by decide +kernel
theorem dX1_askingOnWay_13 : decode cX1_askingOnWay 13 = .ok (.getfield 15, 3) := by decide +kernel
theorem dX1_askingOnWay_16 : decode cX1_askingOnWay 16 = .ok (.iload_n 2, 1) := by decide +kernel
theorem dX1_askingOnWay_17 : decode cX1_askingOnWay 17 = .ok (.iaload, 1) := by decide +kernel
theorem dX1_askingOnWay_18 : decode cX1_askingOnWay 18 = .ok (.invokestatic 159, 3) := by decide +kernel
theorem dX1_askingOnWay_21 : decode cX1_askingOnWay 21 = .ok (.iconst 2, 1) := by decide +kernel
theorem dX1_askingOnWay_22 : decode cX1_askingOnWay 22 = .ok (.if_icmp .gt 6, 3) := by decide +kernel
theorem dX1_askingOnWay_25 : decode cX1_askingOnWay 25 = .ok (.iinc 1 1, 3) := by decide +kernel
theorem dX1_askingOnWay_28 : decode cX1_askingOnWay 28 = .ok (.iinc 2 1, 3) := by decide +kernel
theorem dX1_askingOnWay_31 : decode cX1_askingOnWay 31 = .ok (.goto (-27), 3) := by decide +kernel
theorem dX1_askingOnWay_34 : decode cX1_askingOnWay 34 = .ok (.iload_n 1, 1) := by decide +kernel
theorem dX1_askingOnWay_35 : decode cX1_askingOnWay 35 = .ok (.ireturn, 1) := by decide +kernel
def xX1_askingOnWay_4  (t : Nat) : Nat → Int32 → Int32 → j_M → Option (Int32 × j_M)
  | 0, _, _, _ => none
  | n + 1, l1, l2, M => oli (M t 8) fun v1 => (if v1 ≤ l2 then some (l1, M) else gd l2 256 (oli (M (t + 2) (ix l2)) fun v2 => obi (xX4_kind v2 M) fun v4 M3 => (if (nI 2) < v4 then xX1_askingOnWay_4 t n l1 (l2 + (nI 1)) M3 else xX1_askingOnWay_4 t n (l1 + (nI 1)) (l2 + (nI 1)) M3)))
set_option maxRecDepth 20000 in
set_option maxHeartbeats 2000000 in
theorem tX1_askingOnWay_4  (t : Nat)  : ∀ (n : Nat) (l1 : Int32) (l2 : Int32) (M : j_M), J (ρ := Int32 × j_M) yX1_askingOnWay cX1_askingOnWay 3 (some .int) 1 20 j_ei 4 [(0, .inr (10, 0, t)), (1, .inl (l1)), (2, .inl (l2))] [] M (xX1_askingOnWay_4 t n l1 l2 M) := by
  intro n
  induction n with
  | zero => intros; exact J_none
  | succ n ih =>
    intro l1 l2 M
    rw [xX1_askingOnWay_4.eq_2]
    refine K_iload_n (q := 5) 2 dX1_askingOnWay_4 rfl rfl rfl ?_
    refine K_aload_n (q := 6) 0 dX1_askingOnWay_5 rfl rfl rfl ?_
    refine K_getI (q := 9) (ci := 0) 8 dX1_askingOnWay_6 fRX1_64 rfl rfl rfl (fun v1 => ?_)
    refine K_icmp_ge (q := 12) (tgt := 34) dX1_askingOnWay_9 rfl ?_ rfl ?_
    · refine K_iload_n (q := 35) 1 dX1_askingOnWay_34 rfl rfl rfl ?_
      exact J_iret dX1_askingOnWay_35
    · refine K_aload_n (q := 13) 0 dX1_askingOnWay_12 rfl rfl rfl ?_
      refine K_getR (q := 16) (ci := 0) (a2 := t + 2) 2 dX1_askingOnWay_13 fRX1_15 rfl rfl (by decide) rfl rfl ?_
      refine K_iload_n (q := 17) 2 dX1_askingOnWay_16 rfl rfl rfl ?_
      refine K_iald (q := 18) dX1_askingOnWay_17 rfl (fun v2 => ?_)
      refine K_csi (q := 21) [.inl (v2)] dX1_askingOnWay_18 cb_X4_kind cvRX1_159 rfl (Nat.le_of_ble_eq_true rfl) ⟨by decide, by decide⟩ (Nat.le_of_ble_eq_true rfl) rfl (tX4_kind v2 M) rfl (fun v4 M3 => ?_)
      refine K_iconst (q := 22) (v := nI 2) dX1_askingOnWay_21 rfl rfl ?_
      refine K_icmp_gt (q := 25) (tgt := 28) dX1_askingOnWay_22 rfl ?_ rfl ?_
      · refine K_iinc (q := 31) (v := l2 + (nI 1)) (ll' := [(2, .inl (l2 + (nI 1))), (0, .inr (10, 0, t)), (1, .inl (l1))]) 2 dX1_askingOnWay_28 rfl rfl (by decide) rfl rfl ?_
        refine J_goto (tgt := 4) dX1_askingOnWay_31 rfl ?_
        exact J_sub [1, 2, 0] (ih l1 (l2 + (nI 1)) M3) rfl
      · refine K_iinc (q := 28) (v := l1 + (nI 1)) (ll' := [(1, .inl (l1 + (nI 1))), (0, .inr (10, 0, t)), (2, .inl (l2))]) 1 dX1_askingOnWay_25 rfl rfl (by decide) rfl rfl ?_
        refine K_iinc (q := 31) (v := l2 + (nI 1)) (ll' := [(2, .inl (l2 + (nI 1))), (1, .inl (l1 + (nI 1))), (0, .inr (10, 0, t))]) 2 dX1_askingOnWay_28 rfl rfl (by decide) rfl rfl ?_
        refine J_goto (tgt := 4) dX1_askingOnWay_31 rfl ?_
        exact J_sub [2, 1, 0] (ih (l1 + (nI 1)) (l2 + (nI 1)) M3) rfl
def xX1_askingOnWay (t : Nat)  (M : j_M) : Option (Int32 × j_M) := xX1_askingOnWay_4 t fu (nI 0) (nI 0) M
set_option maxRecDepth 20000 in
set_option maxHeartbeats 2000000 in
theorem tX1_askingOnWay (t : Nat)  (M : j_M) : J (ρ := Int32 × j_M) yX1_askingOnWay cX1_askingOnWay 3 (some .int) 1 20 j_ei 0 [(0, .inr (10, 0, t))] [] M (xX1_askingOnWay t  M) := by
  unfold xX1_askingOnWay
  refine K_iconst (q := 1) (v := nI 0) dX1_askingOnWay_0 rfl rfl ?_
  refine K_istore_n (q := 2) (ll' := [(1, .inl ((nI 0))), (0, .inr (10, 0, t))]) dX1_askingOnWay_1 rfl (by decide) rfl rfl ?_
  refine K_iconst (q := 3) (v := nI 0) dX1_askingOnWay_2 rfl rfl ?_
  refine K_istore_n (q := 4) (ll' := [(2, .inl ((nI 0))), (1, .inl ((nI 0))), (0, .inr (10, 0, t))]) dX1_askingOnWay_3 rfl (by decide) rfl rfl ?_
  exact J_sub [2, 1, 0] (tX1_askingOnWay_4 t fu (nI 0) (nI 0) M) rfl
theorem dX1_blockOf_0 : decode cX1_blockOf 0 = .ok (.iload_n 0, 1) := by decide +kernel
theorem dX1_blockOf_1 : decode cX1_blockOf 1 = .ok (.iconst 1, 1) := by decide +kernel
theorem dX1_blockOf_2 : decode cX1_blockOf 2 = .ok (.iadd, 1) := by decide +kernel
theorem dX1_blockOf_3 : decode cX1_blockOf 3 = .ok (.bipush 7, 2) := by decide +kernel
theorem dX1_blockOf_5 : decode cX1_blockOf 5 = .ok (.irem, 1) := by decide +kernel
theorem dX1_blockOf_6 : decode cX1_blockOf 6 = .ok (.bipush 16, 2) := by decide +kernel
theorem dX1_blockOf_8 : decode cX1_blockOf 8 = .ok (.imul, 1) := by decide +kernel
theorem dX1_blockOf_9 : decode cX1_blockOf 9 = .ok (.ireturn, 1) := by decide +kernel
def xX1_blockOf  (l0 : Int32) (M : j_M) : Option (Int32 × j_M) := gn (nI 7) (some (((l0 + (nI 1)) - (l0 + (nI 1)) / (nI 7) * (nI 7)) * (nI 16), M))
set_option maxRecDepth 20000 in
set_option maxHeartbeats 2000000 in
theorem tX1_blockOf  (l0 : Int32) (M : j_M) : J (ρ := Int32 × j_M) yX1_blockOf cX1_blockOf 1 (some .int) 0 0 j_ei 0 [(0, .inl (l0))] [] M (xX1_blockOf  l0 M) := by
  unfold xX1_blockOf
  refine K_iload_n (q := 1) 0 dX1_blockOf_0 rfl rfl rfl ?_
  refine K_iconst (q := 2) (v := nI 1) dX1_blockOf_1 rfl rfl ?_
  refine K_iadd (q := 3) dX1_blockOf_2 rfl ?_
  refine K_bipush (q := 5) (v := nI 7) dX1_blockOf_3 rfl rfl ?_
  refine K_irem (q := 6) dX1_blockOf_5 rfl ?_
  refine K_bipush (q := 8) (v := nI 16) dX1_blockOf_6 rfl rfl ?_
  refine K_imul (q := 9) dX1_blockOf_8 rfl ?_
  exact J_iret dX1_blockOf_9
theorem dX1_missOf_0 : decode cX1_missOf 0 = .ok (.aload_n 0, 1) := by decide +kernel
theorem dX1_missOf_1 : decode cX1_missOf 1 = .ok (.getfield 11, 3) := by decide +kernel
theorem dX1_missOf_4 : decode cX1_missOf 4 = .ok (.iload_n 1, 1) := by decide +kernel
theorem dX1_missOf_5 : decode cX1_missOf 5 = .ok (.invokestatic 73, 3) := by decide +kernel
theorem dX1_missOf_8 : decode cX1_missOf 8 = .ok (.bipush 15, 2) := by decide +kernel
theorem dX1_missOf_10 : decode cX1_missOf 10 = .ok (.iadd, 1) := by decide +kernel
theorem dX1_missOf_11 : decode cX1_missOf 11 = .ok (.iaload, 1) := by decide +kernel
theorem dX1_missOf_12 : decode cX1_missOf 12 = .ok (.ireturn, 1) := by decide +kernel
def xX1_missOf (t : Nat) (l1 : Int32) (M : j_M) : Option (Int32 × j_M) := obi (xX1_blockOf l1 M) fun v2 M1 => gd (v2 + (nI 15)) 112 (oli (M1 (t + 1) (ix (v2 + (nI 15)))) fun v3 => some (v3, M1))
set_option maxRecDepth 20000 in
set_option maxHeartbeats 2000000 in
theorem tX1_missOf (t : Nat) (l1 : Int32) (M : j_M) : J (ρ := Int32 × j_M) yX1_missOf cX1_missOf 2 (some .int) 1 20 j_ei 0 [(0, .inr (10, 0, t)), (1, .inl (l1))] [] M (xX1_missOf t l1 M) := by
  unfold xX1_missOf
  refine K_aload_n (q := 1) 0 dX1_missOf_0 rfl rfl rfl ?_
  refine K_getR (q := 4) (ci := 0) (a2 := t + 1) 1 dX1_missOf_1 fRX1_11 rfl rfl (by decide) rfl rfl ?_
  refine K_iload_n (q := 5) 1 dX1_missOf_4 rfl rfl rfl ?_
  refine K_csi (q := 8) [.inl (l1)] dX1_missOf_5 cb_X1_blockOf cvRX1_73 rfl (Nat.le_of_ble_eq_true rfl) ⟨by decide, by decide⟩ (Nat.le_of_ble_eq_true rfl) rfl (tX1_blockOf l1 M) rfl (fun v2 M1 => ?_)
  refine K_bipush (q := 10) (v := nI 15) dX1_missOf_8 rfl rfl ?_
  refine K_iadd (q := 11) dX1_missOf_10 rfl ?_
  refine K_iald (q := 12) dX1_missOf_11 rfl (fun v3 => ?_)
  exact J_iret dX1_missOf_12
theorem dX1_post_0 : decode cX1_post 0 = .ok (.aload_n 0, 1) := by decide +kernel
theorem dX1_post_1 : decode cX1_post 1 = .ok (.getfield 64, 3) := by decide +kernel
theorem dX1_post_4 : decode cX1_post 4 = .ok (.sipush 256, 3) := by decide +kernel
theorem dX1_post_7 : decode cX1_post 7 = .ok (.if_icmp .lt 4, 3) := by decide +kernel
theorem dX1_post_10 : decode cX1_post 10 = .ok (.return_, 1) := by decide +kernel
theorem dX1_post_11 : decode cX1_post 11 = .ok (.aload_n 0, 1) := by decide +kernel
theorem dX1_post_12 : decode cX1_post 12 = .ok (.getfield 15, 3) := by decide +kernel
theorem dX1_post_15 : decode cX1_post 15 = .ok (.aload_n 0, 1) := by decide +kernel
theorem dX1_post_16 : decode cX1_post 16 = .ok (.getfield 64, 3) := by decide +kernel
theorem dX1_post_19 : decode cX1_post 19 = .ok (.iload_n 1, 1) := by decide +kernel
theorem dX1_post_20 : decode cX1_post 20 = .ok (.iload_n 2, 1) := by decide +kernel
theorem dX1_post_21 : decode cX1_post 21 = .ok (.iconst 3, 1) := by decide +kernel
theorem dX1_post_22 : decode cX1_post 22 = .ok (.ishl, 1) := by decide +kernel
theorem dX1_post_23 : decode cX1_post 23 = .ok (.ior, 1) := by decide +kernel
theorem dX1_post_24 : decode cX1_post 24 = .ok (.iload_n 3, 1) := by decide +kernel
theorem dX1_post_25 : decode cX1_post 25 = .ok (.bipush 6, 2) := by decide +kernel
theorem dX1_post_27 : decode cX1_post 27 = .ok (.ishl, 1) := by decide +kernel
theorem dX1_post_28 : decode cX1_post 28 = .ok (.ior, 1) := by decide +kernel
theorem dX1_post_29 : decode cX1_post 29 = .ok (.iload 4, 2) := by decide +kernel
theorem dX1_post_31 : decode cX1_post 31 = .ok (.bipush 9, 2) := by decide +kernel
theorem dX1_post_33 : decode cX1_post 33 = .ok (.ishl, 1) := by decide +kernel
theorem dX1_post_34 : decode cX1_post 34 = .ok (.ior, 1) := by decide +kernel
theorem dX1_post_35 : decode cX1_post 35 = .ok (.iload 5, 2) := by decide +kernel
theorem dX1_post_37 : decode cX1_post 37 = .ok (.bipush 12, 2) := by decide +kernel
theorem dX1_post_39 : decode cX1_post 39 = .ok (.ishl, 1) := by decide +kernel
theorem dX1_post_40 : decode cX1_post 40 = .ok (.ior, 1) := by decide +kernel
theorem dX1_post_41 : decode cX1_post 41 = .ok (.iastore, 1) := by decide +kernel
theorem dX1_post_42 : decode cX1_post 42 = .ok (.aload_n 0, 1) := by decide +kernel
theorem dX1_post_43 : decode cX1_post 43 = .ok (.dup, 1) := by decide +kernel
theorem dX1_post_44 : decode cX1_post 44 = .ok (.getfield 64, 3) := by decide +kernel
theorem dX1_post_47 : decode cX1_post 47 = .ok (.iconst 1, 1) := by decide +kernel
theorem dX1_post_48 : decode cX1_post 48 = .ok (.iadd, 1) := by decide +kernel
theorem dX1_post_49 : decode cX1_post 49 = .ok (.putfield 64, 3) := by decide +kernel
theorem dX1_post_52 : decode cX1_post 52 = .ok (.iload_n 1, 1) := by decide +kernel
theorem dX1_post_53 : decode cX1_post 53 = .ok (.bipush 7, 2) := by decide +kernel
theorem dX1_post_55 : decode cX1_post 55 = .ok (.imul, 1) := by decide +kernel
theorem dX1_post_56 : decode cX1_post 56 = .ok (.iload_n 2, 1) := by decide +kernel
theorem dX1_post_57 : decode cX1_post 57 = .ok (.iadd, 1) := by decide +kernel
theorem dX1_post_58 : decode cX1_post 58 = .ok (.istore 6, 2) := by decide +kernel
theorem dX1_post_60 : decode cX1_post 60 = .ok (.aload_n 0, 1) := by decide +kernel
theorem dX1_post_61 : decode cX1_post 61 = .ok (.getfield 46, 3) := by decide +kernel
theorem dX1_post_64 : decode cX1_post 64 = .ok (.getfield 164, 3) := by decide +kernel
theorem dX1_post_67 : decode cX1_post 67 = .ok (.iload 6, 2) := by decide +kernel
theorem dX1_post_69 : decode cX1_post 69 = .ok (.dup2, 1) := by decide +kernel
theorem dX1_post_70 : decode cX1_post 70 = .ok (.iaload, 1) := by decide +kernel
theorem dX1_post_71 : decode cX1_post 71 = .ok (.iconst 1, 1) := by decide +kernel
theorem dX1_post_72 : decode cX1_post 72 = .ok (.iadd, 1) := by decide +kernel
theorem dX1_post_73 : decode cX1_post 73 = .ok (.iastore, 1) := by decide +kernel
theorem dX1_post_74 : decode cX1_post 74 = .ok (.iload_n 3, 1) := by decide +kernel
theorem dX1_post_75 : decode cX1_post 75 = .ok (.iconst 3, 1) := by decide +kernel
theorem dX1_post_76 : decode cX1_post 76 = .ok (.if_icmp .ne 42, 3) := by decide +kernel
theorem dX1_post_79 : decode cX1_post 79 = .ok (.aload_n 0, 1) := by decide +kernel
theorem dX1_post_80 : decode cX1_post 80 = .ok (.getfield 46, 3) := by decide +kernel
theorem dX1_post_83 : decode cX1_post 83 = .ok (.getfield 167, 3) := by decide +kernel
theorem dX1_post_86 : decode cX1_post 86 = .ok (.iload 6, 2) := by decide +kernel
theorem dX1_post_88 : decode cX1_post 88 = .ok (.dup2, 1) := by decide +kernel
theorem dX1_post_89 : decode cX1_post 89 = .ok (.iaload, 1) := by decide +kernel
theorem dX1_post_90 : decode cX1_post 90 = .ok (.iload 5, 2) := by decide +kernel
theorem dX1_post_92 : decode cX1_post 92 = .ok (.bipush 15, 2) := by decide +kernel
theorem dX1_post_94 : decode cX1_post 94 = .ok (.iand, 1) := by decide +kernel
theorem dX1_post_95 : decode cX1_post 95 = .ok (.iadd, 1) := by decide +kernel
theorem dX1_post_96 : decode cX1_post 96 = .ok (.iastore, 1) := by decide +kernel
theorem dX1_post_97 : decode cX1_post 97 = .ok (.iload 5, 2) := by decide +kernel
theorem dX1_post_99 : decode cX1_post 99 = .ok (.iconst 5, 1) := by decide +kernel
theorem dX1_post_100 : decode cX1_post 100 = .ok (.iushr, 1) := by decide +kernel
theorem dX1_post_101 : decode cX1_post 101 = .ok (.ifCond .eq 17, 3) := by decide +kernel
theorem dX1_post_104 : decode cX1_post 104 = .ok (.aload_n 0, 1) := by decide +kernel
theorem dX1_post_105 : decode cX1_post 105 = .ok (.getfield 46, 3) := by decide +kernel
theorem dX1_post_108 : decode cX1_post 108 = .ok (.getfield 170, 3) := by decide +kernel
theorem dX1_post_111 : decode cX1_post 111 = .ok (.iload 6, 2) := by decide +kernel
theorem dX1_post_113 : decode cX1_post 113 = .ok (.dup2, 1) := by decide +kernel
theorem dX1_post_114 : decode cX1_post 114 = .ok (.iaload, 1) := by decide +kernel
theorem dX1_post_115 : decode cX1_post 115 = .ok (.iconst 1, 1) := by decide +kernel
theorem dX1_post_116 : decode cX1_post 116 = .ok (.iadd, 1) := by decide +kernel
theorem dX1_post_117 : decode cX1_post 117 = .ok (.iastore, 1) := by decide +kernel
theorem dX1_post_118 : decode cX1_post 118 = .ok (.return_, 1) := by decide +kernel
def xX1_post (t : Nat) (l1 : Int32) (l2 : Int32) (l3 : Int32) (l4 : Int32) (l5 : Int32) (M : j_M) : Option (j_M) := oli (M t 8) fun v1 => (if v1 < (nI 256) then oli (M t 8) fun v2 => gd v2 256 (oml (mw M (t + 2) (ix v2) ((((l1 ||| (l2 <<< ((nI 3) &&& 31))) ||| (l3 <<< ((nI 6) &&& 31))) ||| (l4 <<< ((nI 9) &&& 31))) ||| (l5 <<< ((nI 12) &&& 31)))) fun M3 => oli (M3 t 8) fun v4 => oml (mw M3 t 8 (v4 + (nI 1))) fun M5 => gd ((l1 * (nI 7)) + l2) 49 (oli (M5 (t + 10) (ix ((l1 * (nI 7)) + l2))) fun v6 => gd ((l1 * (nI 7)) + l2) 49 (oml (mw M5 (t + 10) (ix ((l1 * (nI 7)) + l2)) (v6 + (nI 1))) fun M7 => (if l3 = (nI 3) then gd ((l1 * (nI 7)) + l2) 49 (oli (M7 (t + 11) (ix ((l1 * (nI 7)) + l2))) fun v8 => gd ((l1 * (nI 7)) + l2) 49 (oml (mw M7 (t + 11) (ix ((l1 * (nI 7)) + l2)) (v8 + (l5 &&& (nI 15)))) fun M9 => (if us l5 (nI 5) = (0 : Int32) then some M9 else gd ((l1 * (nI 7)) + l2) 49 (oli (M9 (t + 12) (ix ((l1 * (nI 7)) + l2))) fun v10 => gd ((l1 * (nI 7)) + l2) 49 (oml (mw M9 (t + 12) (ix ((l1 * (nI 7)) + l2)) (v10 + (nI 1))) fun M11 => some M11))))) else some M7)))) else some M)
set_option maxRecDepth 20000 in
set_option maxHeartbeats 2000000 in
theorem tX1_post (t : Nat) (l1 : Int32) (l2 : Int32) (l3 : Int32) (l4 : Int32) (l5 : Int32) (M : j_M) : J (ρ := j_M) yX1_post cX1_post 7 none 0 0 j_ev 0 [(0, .inr (10, 0, t)), (1, .inl (l1)), (2, .inl (l2)), (3, .inl (l3)), (4, .inl (l4)), (5, .inl (l5))] [] M (xX1_post t l1 l2 l3 l4 l5 M) := by
  unfold xX1_post
  refine K_aload_n (q := 1) 0 dX1_post_0 rfl rfl rfl ?_
  refine K_getI (q := 4) (ci := 0) 8 dX1_post_1 fRX1_64 rfl rfl rfl (fun v1 => ?_)
  refine K_sipush (q := 7) (v := nI 256) dX1_post_4 rfl rfl ?_
  refine K_icmp_lt (q := 10) (tgt := 11) dX1_post_7 rfl ?_ rfl ?_
  · refine K_aload_n (q := 12) 0 dX1_post_11 rfl rfl rfl ?_
    refine K_getR (q := 15) (ci := 0) (a2 := t + 2) 2 dX1_post_12 fRX1_15 rfl rfl (by decide) rfl rfl ?_
    refine K_aload_n (q := 16) 0 dX1_post_15 rfl rfl rfl ?_
    refine K_getI (q := 19) (ci := 0) 8 dX1_post_16 fRX1_64 rfl rfl rfl (fun v2 => ?_)
    refine K_iload_n (q := 20) 1 dX1_post_19 rfl rfl rfl ?_
    refine K_iload_n (q := 21) 2 dX1_post_20 rfl rfl rfl ?_
    refine K_iconst (q := 22) (v := nI 3) dX1_post_21 rfl rfl ?_
    refine K_ishl (q := 23) dX1_post_22 rfl ?_
    refine K_ior (q := 24) dX1_post_23 rfl ?_
    refine K_iload_n (q := 25) 3 dX1_post_24 rfl rfl rfl ?_
    refine K_bipush (q := 27) (v := nI 6) dX1_post_25 rfl rfl ?_
    refine K_ishl (q := 28) dX1_post_27 rfl ?_
    refine K_ior (q := 29) dX1_post_28 rfl ?_
    refine K_iload (q := 31) 4 dX1_post_29 rfl rfl ?_
    refine K_bipush (q := 33) (v := nI 9) dX1_post_31 rfl rfl ?_
    refine K_ishl (q := 34) dX1_post_33 rfl ?_
    refine K_ior (q := 35) dX1_post_34 rfl ?_
    refine K_iload (q := 37) 5 dX1_post_35 rfl rfl ?_
    refine K_bipush (q := 39) (v := nI 12) dX1_post_37 rfl rfl ?_
    refine K_ishl (q := 40) dX1_post_39 rfl ?_
    refine K_ior (q := 41) dX1_post_40 rfl ?_
    refine K_iast (q := 42) dX1_post_41 rfl (fun M3 => ?_)
    refine K_aload_n (q := 43) 0 dX1_post_42 rfl rfl rfl ?_
    refine K_dup (q := 44) dX1_post_43 rfl ?_
    refine K_getI (q := 47) (ci := 0) 8 dX1_post_44 fRX1_64 rfl rfl rfl (fun v4 => ?_)
    refine K_iconst (q := 48) (v := nI 1) dX1_post_47 rfl rfl ?_
    refine K_iadd (q := 49) dX1_post_48 rfl ?_
    refine K_putI (q := 52) (ci := 0) 8 dX1_post_49 fRX1_64 fp_0_8 rfl rfl (by decide) rfl (fun M5 => ?_)
    refine K_iload_n (q := 53) 1 dX1_post_52 rfl rfl rfl ?_
    refine K_bipush (q := 55) (v := nI 7) dX1_post_53 rfl rfl ?_
    refine K_imul (q := 56) dX1_post_55 rfl ?_
    refine K_iload_n (q := 57) 2 dX1_post_56 rfl rfl rfl ?_
    refine K_iadd (q := 58) dX1_post_57 rfl ?_
    refine K_istore (q := 60) (ll' := [(6, .inl ((l1 * (nI 7)) + l2)), (0, .inr (10, 0, t)), (1, .inl (l1)), (2, .inl (l2)), (3, .inl (l3)), (4, .inl (l4)), (5, .inl (l5))]) dX1_post_58 (by decide) rfl rfl ?_
    refine K_aload_n (q := 61) 1 dX1_post_60 rfl rfl rfl ?_
    refine K_getR (q := 64) (ci := 0) (a2 := t + 8) 0 dX1_post_61 fRX1_46 rfl rfl (by decide) rfl rfl ?_
    refine K_getR (q := 67) (ci := 1) (a2 := t + 10) 1 dX1_post_64 fRX1_164 rfl rfl (by decide) rfl rfl ?_
    refine K_iload (q := 69) 0 dX1_post_67 rfl rfl ?_
    refine K_dup2 (q := 70) dX1_post_69 rfl ?_
    refine K_iald (q := 71) dX1_post_70 rfl (fun v6 => ?_)
    refine K_iconst (q := 72) (v := nI 1) dX1_post_71 rfl rfl ?_
    refine K_iadd (q := 73) dX1_post_72 rfl ?_
    refine K_iast (q := 74) dX1_post_73 rfl (fun M7 => ?_)
    refine K_iload_n (q := 75) 4 dX1_post_74 rfl rfl rfl ?_
    refine K_iconst (q := 76) (v := nI 3) dX1_post_75 rfl rfl ?_
    refine K_icmp_ne (q := 79) (tgt := 118) dX1_post_76 rfl ?_ rfl ?_
    · exact J_vret dX1_post_118
    · refine K_aload_n (q := 80) 1 dX1_post_79 rfl rfl rfl ?_
      refine K_getR (q := 83) (ci := 0) (a2 := t + 8) 0 dX1_post_80 fRX1_46 rfl rfl (by decide) rfl rfl ?_
      refine K_getR (q := 86) (ci := 1) (a2 := t + 11) 2 dX1_post_83 fRX1_167 rfl rfl (by decide) rfl rfl ?_
      refine K_iload (q := 88) 0 dX1_post_86 rfl rfl ?_
      refine K_dup2 (q := 89) dX1_post_88 rfl ?_
      refine K_iald (q := 90) dX1_post_89 rfl (fun v8 => ?_)
      refine K_iload (q := 92) 6 dX1_post_90 rfl rfl ?_
      refine K_bipush (q := 94) (v := nI 15) dX1_post_92 rfl rfl ?_
      refine K_iand (q := 95) dX1_post_94 rfl ?_
      refine K_iadd (q := 96) dX1_post_95 rfl ?_
      refine K_iast (q := 97) dX1_post_96 rfl (fun M9 => ?_)
      refine K_iload (q := 99) 6 dX1_post_97 rfl rfl ?_
      refine K_iconst (q := 100) (v := nI 5) dX1_post_99 rfl rfl ?_
      refine K_iushr (q := 101) dX1_post_100 rfl ?_
      refine K_if_eq (q := 104) (tgt := 118) dX1_post_101 rfl ?_ rfl ?_
      · exact J_vret dX1_post_118
      · refine K_aload_n (q := 105) 1 dX1_post_104 rfl rfl rfl ?_
        refine K_getR (q := 108) (ci := 0) (a2 := t + 8) 0 dX1_post_105 fRX1_46 rfl rfl (by decide) rfl rfl ?_
        refine K_getR (q := 111) (ci := 1) (a2 := t + 12) 3 dX1_post_108 fRX1_170 rfl rfl (by decide) rfl rfl ?_
        refine K_iload (q := 113) 0 dX1_post_111 rfl rfl ?_
        refine K_dup2 (q := 114) dX1_post_113 rfl ?_
        refine K_iald (q := 115) dX1_post_114 rfl (fun v10 => ?_)
        refine K_iconst (q := 116) (v := nI 1) dX1_post_115 rfl rfl ?_
        refine K_iadd (q := 117) dX1_post_116 rfl ?_
        refine K_iast (q := 118) dX1_post_117 rfl (fun M11 => ?_)
        exact J_vret dX1_post_118
  · exact J_vret dX1_post_10
theorem dX1_whomToAsk_0 : decode cX1_whomToAsk 0 = .ok (.iconst 1, 1) := by decide +kernel
theorem dX1_whomToAsk_1 : decode cX1_whomToAsk 1 = .ok (.aload_n 0, 1) := by decide +kernel
theorem dX1_whomToAsk_2 : decode cX1_whomToAsk 2 = .ok (.getfield 33, 3) := by decide +kernel
theorem dX1_whomToAsk_5 : decode cX1_whomToAsk 5 = .ok (.ishl, 1) := by decide +kernel
theorem dX1_whomToAsk_6 : decode cX1_whomToAsk 6 = .ok (.iconst 1, 1) := by decide +kernel
theorem dX1_whomToAsk_7 : decode cX1_whomToAsk 7 = .ok (.isub, 1) := by decide +kernel
theorem dX1_whomToAsk_8 : decode cX1_whomToAsk 8 = .ok (.iconst 1, 1) := by decide +kernel
theorem dX1_whomToAsk_9 : decode cX1_whomToAsk 9 = .ok (.iload_n 1, 1) := by decide +kernel
theorem dX1_whomToAsk_10 : decode cX1_whomToAsk 10 = .ok (.ishl, 1) := by decide +kernel
theorem dX1_whomToAsk_11 : decode cX1_whomToAsk 11 = .ok (.iconst (-1), 1) := by decide +kernel
theorem dX1_whomToAsk_12 : decode cX1_whomToAsk 12 = .ok (.ixor, 1) := by decide +kernel
theorem dX1_whomToAsk_13 : decode cX1_whomToAsk 13 = .ok (.iand, 1) := by decide +kernel
theorem dX1_whomToAsk_14 : decode cX1_whomToAsk 14 = .ok (.istore_n 3, 1) := by decide +kernel
theorem dX1_whomToAsk_15 : decode cX1_whomToAsk 15 = .ok (.iload_n 3, 1) := by decide +kernel
theorem dX1_whomToAsk_16 : decode cX1_whomToAsk 16 = .ok (.istore 4, 2) := by decide +kernel
theorem dX1_whomToAsk_18 : decode cX1_whomToAsk 18 = .ok (.aload_n 0, 1) := by decide +kernel
theorem dX1_whomToAsk_19 : decode cX1_whomToAsk 19 = .ok (.getfield 67, 3) := by decide +kernel
theorem dX1_whomToAsk_22 : decode cX1_whomToAsk 22 = .ok (.iconst 1, 1) := by decide +kernel
theorem dX1_whomToAsk_23 : decode cX1_whomToAsk 23 = .ok (.if_icmp .ne 35, 3) := by decide +kernel
theorem dX1_whomToAsk_26 : decode cX1_whomToAsk 26 = .ok (.aload_n 0, 1) := by decide +kernel
theorem dX1_whomToAsk_27 : decode cX1_whomToAsk 27 = .ok (.getfield 18, 3) := by decide +kernel
theorem dX1_whomToAsk_30 : decode cX1_whomToAsk 30 = .ok (.iload_n 1, 1) := by decide +kernel
theorem dX1_whomToAsk_31 : decode cX1_whomToAsk 31 = .ok (.bipush 8, 2) := by decide +kernel
theorem dX1_whomToAsk_33 : decode cX1_whomToAsk 33 = .ok (.imul, 1) := by decide +kernel
theorem dX1_whomToAsk_34 : decode cX1_whomToAsk 34 = .ok (.iload_n 2, 1) := by decide +kernel
theorem dX1_whomToAsk_35 : decode cX1_whomToAsk 35 = .ok (.iadd, 1) := by decide +kernel
theorem dX1_whomToAsk_36 : decode cX1_whomToAsk 36 = .ok (.iaload, 1) := by decide +kernel
theorem dX1_whomToAsk_37 : decode cX1_whomToAsk 37 = .ok (.istore 5, 2) := by decide +kernel
theorem dX1_whomToAsk_39 : decode cX1_whomToAsk 39 = .ok (.iload 5, 2) := by decide +kernel
theorem dX1_whomToAsk_41 : decode cX1_whomToAsk 41 = .ok (.iconst (-1), 1) := by decide +kernel
theorem dX1_whomToAsk_42 : decode cX1_whomToAsk 42 = .ok (.if_icmp .ne 7, 3) := by decide +kernel
theorem dX1_whomToAsk_45 : decode cX1_whomToAsk 45 = .ok (.iconst 0, 1) := by decide +kernel
theorem dX1_whomToAsk_46 : decode cX1_whomToAsk 46 = .ok (.goto 7, 3) := by decide +kernel
theorem dX1_whomToAsk_49 : decode cX1_whomToAsk 49 = .ok (.iconst 1, 1) := by decide +kernel
theorem dX1_whomToAsk_50 : decode cX1_whomToAsk 50 = .ok (.iload 5, 2) := by decide +kernel
theorem dX1_whomToAsk_52 : decode cX1_whomToAsk 52 = .ok (.ishl, 1) := by decide +kernel
theorem dX1_whomToAsk_53 : decode cX1_whomToAsk 53 = .ok (.istore 4, 2) := by decide +kernel
theorem dX1_whomToAsk_55 : decode cX1_whomToAsk 55 = .ok (.goto 58, 3) := by decide +kernel
theorem dX1_whomToAsk_58 : decode cX1_whomToAsk 58 = .ok (.aload_n 0, 1) := by decide +kernel
theorem dX1_whomToAsk_59 : decode cX1_whomToAsk 59 = .ok (.getfield 67, 3) := by decide +kernel
theorem dX1_whomToAsk_62 : decode cX1_whomToAsk 62 = .ok (.iconst 2, 1) := by decide +kernel
theorem dX1_whomToAsk_63 : decode cX1_whomToAsk 63 = .ok (.if_icmp .ne 19, 3) := by decide +kernel
theorem dX1_whomToAsk_66 : decode cX1_whomToAsk 66 = .ok (.aload_n 0, 1) := by decide +kernel
theorem dX1_whomToAsk_67 : decode cX1_whomToAsk 67 = .ok (.getfield 24, 3) := by decide +kernel
theorem dX1_whomToAsk_70 : decode cX1_whomToAsk 70 = .ok (.iload_n 1, 1) := by decide +kernel
theorem dX1_whomToAsk_71 : decode cX1_whomToAsk 71 = .ok (.iaload, 1) := by decide +kernel
theorem dX1_whomToAsk_72 : decode cX1_whomToAsk 72 = .ok (.iconst 1, 1) := by decide +kernel
theorem dX1_whomToAsk_73 : decode cX1_whomToAsk 73 = .ok (.if_icmp .ne 9, 3) := by decide +kernel
theorem dX1_whomToAsk_76 : decode cX1_whomToAsk 76 = .ok (.iconst 0, 1) := by decide +kernel
theorem dX1_whomToAsk_77 : decode cX1_whomToAsk 77 = .ok (.istore 4, 2) := by decide +kernel
theorem dX1_whomToAsk_79 : decode cX1_whomToAsk 79 = .ok (.goto 34, 3) := by decide +kernel
theorem dX1_whomToAsk_82 : decode cX1_whomToAsk 82 = .ok (.aload_n 0, 1) := by decide +kernel
theorem dX1_whomToAsk_83 : decode cX1_whomToAsk 83 = .ok (.getfield 67, 3) := by decide +kernel
theorem dX1_whomToAsk_86 : decode cX1_whomToAsk 86 = .ok (.iconst 3, 1) := by decide +kernel
theorem dX1_whomToAsk_87 : decode cX1_whomToAsk 87 = .ok (.if_icmp .ne 26, 3) := by decide +kernel
theorem dX1_whomToAsk_90 : decode cX1_whomToAsk 90 = .ok (.aload_n 0, 1) := by decide +kernel
theorem dX1_whomToAsk_91 : decode cX1_whomToAsk 91 = .ok (.getfield 24, 3) := by decide +kernel
theorem dX1_whomToAsk_94 : decode cX1_whomToAsk 94 = .ok (.iload_n 1, 1) := by decide +kernel
theorem dX1_whomToAsk_95 : decode cX1_whomToAsk 95 = .ok (.iaload, 1) := by decide +kernel
theorem dX1_whomToAsk_96 : decode cX1_whomToAsk 96 = .ok (.iconst 1, 1) := by decide +kernel
theorem dX1_whomToAsk_97 : decode cX1_whomToAsk 97 = .ok (.if_icmp .ne 16, 3) := by decide +kernel
theorem dX1_whomToAsk_100 : decode cX1_whomToAsk 100 = .ok (.aload_n 0, 1) := by decide +kernel
theorem dX1_whomToAsk_101 : decode cX1_whomToAsk 101 = .ok (.getfield 21, 3) := by decide +kernel
theorem dX1_whomToAsk_104 : decode cX1_whomToAsk 104 = .ok (.iload_n 1, 1) := by decide +kernel
theorem dX1_whomToAsk_105 : decode cX1_whomToAsk 105 = .ok (.bipush 8, 2) := by decide +kernel
theorem dX1_whomToAsk_107 : decode cX1_whomToAsk 107 = .ok (.imul, 1) := by decide +kernel
theorem dX1_whomToAsk_108 : decode cX1_whomToAsk 108 = .ok (.iload_n 2, 1) := by decide +kernel
theorem dX1_whomToAsk_109 : decode cX1_whomToAsk 109 = .ok (.iadd, 1) := by decide +kernel
theorem dX1_whomToAsk_110 : decode cX1_whomToAsk 110 = .ok (.iaload, 1) := by decide +kernel
theorem dX1_whomToAsk_111 : decode cX1_whomToAsk 111 = .ok (.istore 4, 2) := by decide +kernel
theorem dX1_whomToAsk_113 : decode cX1_whomToAsk 113 = .ok (.iload 4, 2) := by decide +kernel
theorem dX1_whomToAsk_115 : decode cX1_whomToAsk 115 = .ok (.iload_n 3, 1) := by decide +kernel
theorem dX1_whomToAsk_116 : decode cX1_whomToAsk 116 = .ok (.iand, 1) := by decide +kernel
theorem dX1_whomToAsk_117 : decode cX1_whomToAsk 117 = .ok (.bipush 64, 2) := by decide +kernel
theorem dX1_whomToAsk_119 : decode cX1_whomToAsk 119 = .ok (.ior, 1) := by decide +kernel
theorem dX1_whomToAsk_120 : decode cX1_whomToAsk 120 = .ok (.ireturn, 1) := by decide +kernel
def xX1_whomToAsk_113  (t : Nat) (l3 : Int32) (l4 : Int32) (M : j_M) : Option (Int32 × j_M) := some ((l4 &&& l3) ||| (nI 64), M)
set_option maxRecDepth 20000 in
set_option maxHeartbeats 2000000 in
theorem tX1_whomToAsk_113  (t : Nat)  (l3 : Int32) (l4 : Int32) (M : j_M) : J (ρ := Int32 × j_M) yX1_whomToAsk cX1_whomToAsk 6 (some .int) 0 0 j_ei 113 [(3, .inl (l3)), (4, .inl (l4))] [] M (xX1_whomToAsk_113 t l3 l4 M) := by
  unfold xX1_whomToAsk_113
  refine K_iload (q := 115) 1 dX1_whomToAsk_113 rfl rfl ?_
  refine K_iload_n (q := 116) 0 dX1_whomToAsk_115 rfl rfl rfl ?_
  refine K_iand (q := 117) dX1_whomToAsk_116 rfl ?_
  refine K_bipush (q := 119) (v := nI 64) dX1_whomToAsk_117 rfl rfl ?_
  refine K_ior (q := 120) dX1_whomToAsk_119 rfl ?_
  exact J_iret dX1_whomToAsk_120
def xX1_whomToAsk_82  (t : Nat) (l1 : Int32) (l2 : Int32) (l3 : Int32) (l4 : Int32) (M : j_M) : Option (Int32 × j_M) := oli (M t 12) fun v1 => (if v1 = (nI 3) then gd l1 6 (oli (M (t + 5) (ix l1)) fun v2 => (if v2 = (nI 1) then gd ((l1 * (nI 8)) + l2) 48 (oli (M (t + 4) (ix ((l1 * (nI 8)) + l2))) fun v3 => xX1_whomToAsk_113 t l3 v3 M) else xX1_whomToAsk_113 t l3 l4 M)) else xX1_whomToAsk_113 t l3 l4 M)
set_option maxRecDepth 20000 in
set_option maxHeartbeats 2000000 in
theorem tX1_whomToAsk_82  (t : Nat)  (l1 : Int32) (l2 : Int32) (l3 : Int32) (l4 : Int32) (M : j_M) : J (ρ := Int32 × j_M) yX1_whomToAsk cX1_whomToAsk 6 (some .int) 0 0 j_ei 82 [(0, .inr (10, 0, t)), (1, .inl (l1)), (2, .inl (l2)), (3, .inl (l3)), (4, .inl (l4))] [] M (xX1_whomToAsk_82 t l1 l2 l3 l4 M) := by
  unfold xX1_whomToAsk_82
  refine K_aload_n (q := 83) 0 dX1_whomToAsk_82 rfl rfl rfl ?_
  refine K_getI (q := 86) (ci := 0) 12 dX1_whomToAsk_83 fRX1_67 rfl rfl rfl (fun v1 => ?_)
  refine K_iconst (q := 87) (v := nI 3) dX1_whomToAsk_86 rfl rfl ?_
  refine K_icmp_ne (q := 90) (tgt := 113) dX1_whomToAsk_87 rfl ?_ rfl ?_
  · exact J_sub [3, 4] (tX1_whomToAsk_113 t l3 l4 M) rfl
  · refine K_aload_n (q := 91) 0 dX1_whomToAsk_90 rfl rfl rfl ?_
    refine K_getR (q := 94) (ci := 0) (a2 := t + 5) 5 dX1_whomToAsk_91 fRX1_24 rfl rfl (by decide) rfl rfl ?_
    refine K_iload_n (q := 95) 1 dX1_whomToAsk_94 rfl rfl rfl ?_
    refine K_iald (q := 96) dX1_whomToAsk_95 rfl (fun v2 => ?_)
    refine K_iconst (q := 97) (v := nI 1) dX1_whomToAsk_96 rfl rfl ?_
    refine K_icmp_ne (q := 100) (tgt := 113) dX1_whomToAsk_97 rfl ?_ rfl ?_
    · exact J_sub [3, 4] (tX1_whomToAsk_113 t l3 l4 M) rfl
    · refine K_aload_n (q := 101) 0 dX1_whomToAsk_100 rfl rfl rfl ?_
      refine K_getR (q := 104) (ci := 0) (a2 := t + 4) 4 dX1_whomToAsk_101 fRX1_21 rfl rfl (by decide) rfl rfl ?_
      refine K_iload_n (q := 105) 1 dX1_whomToAsk_104 rfl rfl rfl ?_
      refine K_bipush (q := 107) (v := nI 8) dX1_whomToAsk_105 rfl rfl ?_
      refine K_imul (q := 108) dX1_whomToAsk_107 rfl ?_
      refine K_iload_n (q := 109) 2 dX1_whomToAsk_108 rfl rfl rfl ?_
      refine K_iadd (q := 110) dX1_whomToAsk_109 rfl ?_
      refine K_iald (q := 111) dX1_whomToAsk_110 rfl (fun v3 => ?_)
      refine K_istore (q := 113) (ll' := [(4, .inl (v3)), (0, .inr (10, 0, t)), (1, .inl (l1)), (2, .inl (l2)), (3, .inl (l3))]) dX1_whomToAsk_111 (by decide) rfl rfl ?_
      exact J_sub [4, 0] (tX1_whomToAsk_113 t l3 v3 M) rfl
def xX1_whomToAsk_53  (t : Nat) (l3 : Int32) (s0 : Int32) (M : j_M) : Option (Int32 × j_M) := xX1_whomToAsk_113 t l3 s0 M
set_option maxRecDepth 20000 in
set_option maxHeartbeats 2000000 in
theorem tX1_whomToAsk_53  (t : Nat)  (l3 : Int32) (s0 : Int32) (M : j_M) : J (ρ := Int32 × j_M) yX1_whomToAsk cX1_whomToAsk 6 (some .int) 0 0 j_ei 53 [(3, .inl (l3))] [.inl (s0)] M (xX1_whomToAsk_53 t l3 s0 M) := by
  unfold xX1_whomToAsk_53
  refine K_istore (q := 55) (ll' := [(4, .inl (s0)), (3, .inl (l3))]) dX1_whomToAsk_53 (by decide) rfl rfl ?_
  refine J_goto (tgt := 113) dX1_whomToAsk_55 rfl ?_
  exact J_sub [1, 0] (tX1_whomToAsk_113 t l3 s0 M) rfl
def xX1_whomToAsk (t : Nat) (l1 : Int32) (l2 : Int32) (M : j_M) : Option (Int32 × j_M) := oli (M t 9) fun v1 => oli (M t 12) fun v2 => (if v2 = (nI 1) then gd ((l1 * (nI 8)) + l2) 48 (oli (M (t + 3) (ix ((l1 * (nI 8)) + l2))) fun v5 => (if v5 = (-1 : Int32) then xX1_whomToAsk_53 t ((((nI 1) <<< (v1 &&& 31)) - (nI 1)) &&& (((nI 1) <<< (l1 &&& 31)) ^^^ (-1 : Int32))) (nI 0) M else xX1_whomToAsk_53 t ((((nI 1) <<< (v1 &&& 31)) - (nI 1)) &&& (((nI 1) <<< (l1 &&& 31)) ^^^ (-1 : Int32))) ((nI 1) <<< (v5 &&& 31)) M)) else oli (M t 12) fun v3 => (if v3 = (nI 2) then gd l1 6 (oli (M (t + 5) (ix l1)) fun v4 => (if v4 = (nI 1) then xX1_whomToAsk_113 t ((((nI 1) <<< (v1 &&& 31)) - (nI 1)) &&& (((nI 1) <<< (l1 &&& 31)) ^^^ (-1 : Int32))) (nI 0) M else xX1_whomToAsk_82 t l1 l2 ((((nI 1) <<< (v1 &&& 31)) - (nI 1)) &&& (((nI 1) <<< (l1 &&& 31)) ^^^ (-1 : Int32))) ((((nI 1) <<< (v1 &&& 31)) - (nI 1)) &&& (((nI 1) <<< (l1 &&& 31)) ^^^ (-1 : Int32))) M)) else xX1_whomToAsk_82 t l1 l2 ((((nI 1) <<< (v1 &&& 31)) - (nI 1)) &&& (((nI 1) <<< (l1 &&& 31)) ^^^ (-1 : Int32))) ((((nI 1) <<< (v1 &&& 31)) - (nI 1)) &&& (((nI 1) <<< (l1 &&& 31)) ^^^ (-1 : Int32))) M))
set_option maxRecDepth 20000 in
set_option maxHeartbeats 2000000 in
theorem tX1_whomToAsk (t : Nat) (l1 : Int32) (l2 : Int32) (M : j_M) : J (ρ := Int32 × j_M) yX1_whomToAsk cX1_whomToAsk 6 (some .int) 0 0 j_ei 0 [(0, .inr (10, 0, t)), (1, .inl (l1)), (2, .inl (l2))] [] M (xX1_whomToAsk t l1 l2 M) := by
  unfold xX1_whomToAsk
  refine K_iconst (q := 1) (v := nI 1) dX1_whomToAsk_0 rfl rfl ?_
  refine K_aload_n (q := 2) 0 dX1_whomToAsk_1 rfl rfl rfl ?_
  refine K_getI (q := 5) (ci := 0) 9 dX1_whomToAsk_2 fRX1_33 rfl rfl rfl (fun v1 => ?_)
  refine K_ishl (q := 6) dX1_whomToAsk_5 rfl ?_
  refine K_iconst (q := 7) (v := nI 1) dX1_whomToAsk_6 rfl rfl ?_
  refine K_isub (q := 8) dX1_whomToAsk_7 rfl ?_
  refine K_iconst (q := 9) (v := nI 1) dX1_whomToAsk_8 rfl rfl ?_
  refine K_iload_n (q := 10) 1 dX1_whomToAsk_9 rfl rfl rfl ?_
  refine K_ishl (q := 11) dX1_whomToAsk_10 rfl ?_
  refine K_iconst (q := 12) (v := -1) dX1_whomToAsk_11 rfl rfl ?_
  refine K_ixor (q := 13) dX1_whomToAsk_12 rfl ?_
  refine K_iand (q := 14) dX1_whomToAsk_13 rfl ?_
  refine K_istore_n (q := 15) (ll' := [(3, .inl ((((nI 1) <<< (v1 &&& 31)) - (nI 1)) &&& (((nI 1) <<< (l1 &&& 31)) ^^^ (-1 : Int32)))), (0, .inr (10, 0, t)), (1, .inl (l1)), (2, .inl (l2))]) dX1_whomToAsk_14 rfl (by decide) rfl rfl ?_
  refine K_iload_n (q := 16) 0 dX1_whomToAsk_15 rfl rfl rfl ?_
  refine K_istore (q := 18) (ll' := [(4, .inl ((((nI 1) <<< (v1 &&& 31)) - (nI 1)) &&& (((nI 1) <<< (l1 &&& 31)) ^^^ (-1 : Int32)))), (3, .inl ((((nI 1) <<< (v1 &&& 31)) - (nI 1)) &&& (((nI 1) <<< (l1 &&& 31)) ^^^ (-1 : Int32)))), (0, .inr (10, 0, t)), (1, .inl (l1)), (2, .inl (l2))]) dX1_whomToAsk_16 (by decide) rfl rfl ?_
  refine K_aload_n (q := 19) 2 dX1_whomToAsk_18 rfl rfl rfl ?_
  refine K_getI (q := 22) (ci := 0) 12 dX1_whomToAsk_19 fRX1_67 rfl rfl rfl (fun v2 => ?_)
  refine K_iconst (q := 23) (v := nI 1) dX1_whomToAsk_22 rfl rfl ?_
  refine K_icmp_ne (q := 26) (tgt := 58) dX1_whomToAsk_23 rfl ?_ rfl ?_
  · refine K_aload_n (q := 59) 2 dX1_whomToAsk_58 rfl rfl rfl ?_
    refine K_getI (q := 62) (ci := 0) 12 dX1_whomToAsk_59 fRX1_67 rfl rfl rfl (fun v3 => ?_)
    refine K_iconst (q := 63) (v := nI 2) dX1_whomToAsk_62 rfl rfl ?_
    refine K_icmp_ne (q := 66) (tgt := 82) dX1_whomToAsk_63 rfl ?_ rfl ?_
    · exact J_sub [2, 3, 4, 1, 0] (tX1_whomToAsk_82 t l1 l2 ((((nI 1) <<< (v1 &&& 31)) - (nI 1)) &&& (((nI 1) <<< (l1 &&& 31)) ^^^ (-1 : Int32))) ((((nI 1) <<< (v1 &&& 31)) - (nI 1)) &&& (((nI 1) <<< (l1 &&& 31)) ^^^ (-1 : Int32))) M) rfl
    · refine K_aload_n (q := 67) 2 dX1_whomToAsk_66 rfl rfl rfl ?_
      refine K_getR (q := 70) (ci := 0) (a2 := t + 5) 5 dX1_whomToAsk_67 fRX1_24 rfl rfl (by decide) rfl rfl ?_
      refine K_iload_n (q := 71) 3 dX1_whomToAsk_70 rfl rfl rfl ?_
      refine K_iald (q := 72) dX1_whomToAsk_71 rfl (fun v4 => ?_)
      refine K_iconst (q := 73) (v := nI 1) dX1_whomToAsk_72 rfl rfl ?_
      refine K_icmp_ne (q := 76) (tgt := 82) dX1_whomToAsk_73 rfl ?_ rfl ?_
      · exact J_sub [2, 3, 4, 1, 0] (tX1_whomToAsk_82 t l1 l2 ((((nI 1) <<< (v1 &&& 31)) - (nI 1)) &&& (((nI 1) <<< (l1 &&& 31)) ^^^ (-1 : Int32))) ((((nI 1) <<< (v1 &&& 31)) - (nI 1)) &&& (((nI 1) <<< (l1 &&& 31)) ^^^ (-1 : Int32))) M) rfl
      · refine K_iconst (q := 77) (v := nI 0) dX1_whomToAsk_76 rfl rfl ?_
        refine K_istore (q := 79) (ll' := [(4, .inl ((nI 0))), (3, .inl ((((nI 1) <<< (v1 &&& 31)) - (nI 1)) &&& (((nI 1) <<< (l1 &&& 31)) ^^^ (-1 : Int32)))), (0, .inr (10, 0, t)), (1, .inl (l1)), (2, .inl (l2))]) dX1_whomToAsk_77 (by decide) rfl rfl ?_
        refine J_goto (tgt := 113) dX1_whomToAsk_79 rfl ?_
        exact J_sub [1, 0] (tX1_whomToAsk_113 t ((((nI 1) <<< (v1 &&& 31)) - (nI 1)) &&& (((nI 1) <<< (l1 &&& 31)) ^^^ (-1 : Int32))) (nI 0) M) rfl
  · refine K_aload_n (q := 27) 2 dX1_whomToAsk_26 rfl rfl rfl ?_
    refine K_getR (q := 30) (ci := 0) (a2 := t + 3) 3 dX1_whomToAsk_27 fRX1_18 rfl rfl (by decide) rfl rfl ?_
    refine K_iload_n (q := 31) 3 dX1_whomToAsk_30 rfl rfl rfl ?_
    refine K_bipush (q := 33) (v := nI 8) dX1_whomToAsk_31 rfl rfl ?_
    refine K_imul (q := 34) dX1_whomToAsk_33 rfl ?_
    refine K_iload_n (q := 35) 4 dX1_whomToAsk_34 rfl rfl rfl ?_
    refine K_iadd (q := 36) dX1_whomToAsk_35 rfl ?_
    refine K_iald (q := 37) dX1_whomToAsk_36 rfl (fun v5 => ?_)
    refine K_istore (q := 39) (ll' := [(5, .inl (v5)), (4, .inl ((((nI 1) <<< (v1 &&& 31)) - (nI 1)) &&& (((nI 1) <<< (l1 &&& 31)) ^^^ (-1 : Int32)))), (3, .inl ((((nI 1) <<< (v1 &&& 31)) - (nI 1)) &&& (((nI 1) <<< (l1 &&& 31)) ^^^ (-1 : Int32)))), (0, .inr (10, 0, t)), (1, .inl (l1)), (2, .inl (l2))]) dX1_whomToAsk_37 (by decide) rfl rfl ?_
    refine K_iload (q := 41) 0 dX1_whomToAsk_39 rfl rfl ?_
    refine K_iconst (q := 42) (v := -1) dX1_whomToAsk_41 rfl rfl ?_
    refine K_icmp_ne (q := 45) (tgt := 49) dX1_whomToAsk_42 rfl ?_ rfl ?_
    · refine K_iconst (q := 50) (v := nI 1) dX1_whomToAsk_49 rfl rfl ?_
      refine K_iload (q := 52) 0 dX1_whomToAsk_50 rfl rfl ?_
      refine K_ishl (q := 53) dX1_whomToAsk_52 rfl ?_
      exact J_sub [2] (tX1_whomToAsk_53 t ((((nI 1) <<< (v1 &&& 31)) - (nI 1)) &&& (((nI 1) <<< (l1 &&& 31)) ^^^ (-1 : Int32))) ((nI 1) <<< (v5 &&& 31)) M) rfl
    · refine K_iconst (q := 46) (v := nI 0) dX1_whomToAsk_45 rfl rfl ?_
      refine J_goto (tgt := 53) dX1_whomToAsk_46 rfl ?_
      exact J_sub [2] (tX1_whomToAsk_53 t ((((nI 1) <<< (v1 &&& 31)) - (nI 1)) &&& (((nI 1) <<< (l1 &&& 31)) ^^^ (-1 : Int32))) (nI 0) M) rfl
theorem dX1_reorder_0 : decode cX1_reorder 0 = .ok (.iload_n 1, 1) := by decide +kernel
theorem dX1_reorder_1 : decode cX1_reorder 1 = .ok (.bipush 14, 2) := by decide +kernel
theorem dX1_reorder_3 : decode cX1_reorder 3 = .ok (.iadd, 1) := by decide +kernel
theorem dX1_reorder_4 : decode cX1_reorder 4 = .ok (.istore 4, 2) := by decide +kernel
theorem dX1_reorder_6 : decode cX1_reorder 6 = .ok (.aload_n 0, 1) := by decide +kernel
theorem dX1_reorder_7 : decode cX1_reorder 7 = .ok (.getfield 11, 3) := by decide +kernel
theorem dX1_reorder_10 : decode cX1_reorder 10 = .ok (.iload 4, 2) := by decide +kernel
theorem dX1_reorder_12 : decode cX1_reorder 12 = .ok (.iaload, 1) := by decide +kernel
theorem dX1_reorder_13 : decode cX1_reorder 13 = .ok (.istore 5, 2) := by decide +kernel
theorem dX1_reorder_15 : decode cX1_reorder 15 = .ok (.iconst 0, 1) := by decide +kernel
theorem dX1_reorder_16 : decode cX1_reorder 16 = .ok (.istore 6, 2) := by decide +kernel
theorem dX1_reorder_18 : decode cX1_reorder 18 = .ok (.iconst 0, 1) := by decide +kernel
theorem dX1_reorder_19 : decode cX1_reorder 19 = .ok (.istore 7, 2) := by decide +kernel
theorem dX1_reorder_21 : decode cX1_reorder 21 = .ok (.iconst 0, 1) := by decide +kernel
theorem dX1_reorder_22 : decode cX1_reorder 22 = .ok (.istore 8, 2) := by decide +kernel
theorem dX1_reorder_24 : decode cX1_reorder 24 = .ok (.iload 8, 2) := by decide +kernel
theorem dX1_reorder_26 : decode cX1_reorder 26 = .ok (.bipush 32, 2) := by decide +kernel
theorem dX1_reorder_28 : decode cX1_reorder 28 = .ok (.if_icmp .ge 45, 3) := by decide +kernel
theorem dX1_reorder_31 : decode cX1_reorder 31 = .ok (.iload 5, 2) := by decide +kernel
theorem dX1_reorder_33 : decode cX1_reorder 33 = .ok (.iload 8, 2) := by decide +kernel
theorem dX1_reorder_35 : decode cX1_reorder 35 = .ok (.iushr, 1) := by decide +kernel
theorem dX1_reorder_36 : decode cX1_reorder 36 = .ok (.bipush 15, 2) := by decide +kernel
theorem dX1_reorder_38 : decode cX1_reorder 38 = .ok (.iand, 1) := by decide +kernel
theorem dX1_reorder_39 : decode cX1_reorder 39 = .ok (.istore 9, 2) := by decide +kernel
theorem dX1_reorder_41 : decode cX1_reorder 41 = .ok (.iload 9, 2) := by decide +kernel
theorem dX1_reorder_43 : decode cX1_reorder 43 = .ok (.ifCond .eq 24, 3) := by decide +kernel
theorem dX1_reorder_46 : decode cX1_reorder 46 = .ok (.iload 9, 2) := by decide +kernel
theorem dX1_reorder_48 : decode cX1_reorder 48 = .ok (.iload_n 2, 1) := by decide +kernel
theorem dX1_reorder_49 : decode cX1_reorder 49 = .ok (.iconst 1, 1) := by decide +kernel
theorem dX1_reorder_50 : decode cX1_reorder 50 = .ok (.iadd, 1) := by decide +kernel
theorem dX1_reorder_51 : decode cX1_reorder 51 = .ok (.if_icmp .eq 16, 3) := by decide +kernel
theorem dX1_reorder_54 : decode cX1_reorder 54 = .ok (.iload 6, 2) := by decide +kernel
theorem dX1_reorder_56 : decode cX1_reorder 56 = .ok (.iload 9, 2) := by decide +kernel
theorem dX1_reorder_58 : decode cX1_reorder 58 = .ok (.iload 7, 2) := by decide +kernel
theorem dX1_reorder_60 : decode cX1_reorder 60 = .ok (.ishl, 1) := by decide +kernel
theorem dX1_reorder_61 : decode cX1_reorder 61 = .ok (.ior, 1) := by decide +kernel
theorem dX1_reorder_62 : decode cX1_reorder 62 = .ok (.istore 6, 2) := by decide +kernel
theorem dX1_reorder_64 : decode cX1_reorder 64 = .ok (.iinc 7 4, 3) := by decide +kernel
theorem dX1_reorder_67 : decode cX1_reorder 67 = .ok (.iinc 8 4, 3) := by decide +kernel
theorem dX1_reorder_70 : decode cX1_reorder 70 = .ok (.goto (-46), 3) := by decide +kernel
theorem dX1_reorder_73 : decode cX1_reorder 73 = .ok (.aload_n 0, 1) := by decide +kernel
theorem dX1_reorder_74 : decode cX1_reorder 74 = .ok (.getfield 11, 3) := by decide +kernel
theorem dX1_reorder_77 : decode cX1_reorder 77 = .ok (.iload 4, 2) := by decide +kernel
theorem dX1_reorder_79 : decode cX1_reorder 79 = .ok (.iload_n 3, 1) := by decide +kernel
theorem dX1_reorder_80 : decode cX1_reorder 80 = .ok (.ifCond .eq 15, 3) := by decide +kernel
theorem dX1_reorder_83 : decode cX1_reorder 83 = .ok (.iload 6, 2) := by decide +kernel
theorem dX1_reorder_85 : decode cX1_reorder 85 = .ok (.iload_n 2, 1) := by decide +kernel
theorem dX1_reorder_86 : decode cX1_reorder 86 = .ok (.iconst 1, 1) := by decide +kernel
theorem dX1_reorder_87 : decode cX1_reorder 87 = .ok (.iadd, 1) := by decide +kernel
theorem dX1_reorder_88 : decode cX1_reorder 88 = .ok (.iload 7, 2) := by decide +kernel
theorem dX1_reorder_90 : decode cX1_reorder 90 = .ok (.ishl, 1) := by decide +kernel
theorem dX1_reorder_91 : decode cX1_reorder 91 = .ok (.ior, 1) := by decide +kernel
theorem dX1_reorder_92 : decode cX1_reorder 92 = .ok (.goto 5, 3) := by decide +kernel
theorem dX1_reorder_95 : decode cX1_reorder 95 = .ok (.iload 6, 2) := by decide +kernel
theorem dX1_reorder_97 : decode cX1_reorder 97 = .ok (.iastore, 1) := by decide +kernel
theorem dX1_reorder_98 : decode cX1_reorder 98 = .ok (.return_, 1) := by decide +kernel
def xX1_reorder_97  (t : Nat) (s1 : Int32) (s0 : Int32) (M : j_M) : Option (j_M) := gd s1 112 (oml (mw M (t + 1) (ix s1) s0) fun M1 => some M1)
set_option maxRecDepth 20000 in
set_option maxHeartbeats 2000000 in
theorem tX1_reorder_97  (t : Nat)  (s1 : Int32) (s0 : Int32) (M : j_M) : J (ρ := j_M) yX1_reorder cX1_reorder 10 none 0 0 j_ev 97 [] [.inl (s0), .inl (s1), .inr (1, 112, t + 1)] M (xX1_reorder_97 t s1 s0 M) := by
  unfold xX1_reorder_97
  refine K_iast (q := 98) dX1_reorder_97 rfl (fun M1 => ?_)
  exact J_vret dX1_reorder_98
def xX1_reorder_24  (t : Nat) : Nat → Int32 → Int32 → Int32 → Int32 → Int32 → Int32 → Int32 → j_M → Option (j_M)
  | 0, _, _, _, _, _, _, _, _ => none
  | n + 1, l2, l3, l4, l5, l6, l7, l8, M => (if (nI 32) ≤ l8 then (if l3 = (0 : Int32) then xX1_reorder_97 t l4 l6 M else xX1_reorder_97 t l4 (l6 ||| ((l2 + (nI 1)) <<< (l7 &&& 31))) M) else (if (us l5 l8) &&& (nI 15) = (0 : Int32) then xX1_reorder_24 t n l2 l3 l4 l5 l6 l7 (l8 + (nI 4)) M else (if (us l5 l8) &&& (nI 15) = l2 + (nI 1) then xX1_reorder_24 t n l2 l3 l4 l5 l6 l7 (l8 + (nI 4)) M else xX1_reorder_24 t n l2 l3 l4 l5 (l6 ||| (((us l5 l8) &&& (nI 15)) <<< (l7 &&& 31))) (l7 + (nI 4)) (l8 + (nI 4)) M)))
set_option maxRecDepth 20000 in
set_option maxHeartbeats 2000000 in
theorem tX1_reorder_24  (t : Nat)  : ∀ (n : Nat) (l2 : Int32) (l3 : Int32) (l4 : Int32) (l5 : Int32) (l6 : Int32) (l7 : Int32) (l8 : Int32) (M : j_M), J (ρ := j_M) yX1_reorder cX1_reorder 10 none 0 0 j_ev 24 [(0, .inr (10, 0, t)), (2, .inl (l2)), (3, .inl (l3)), (4, .inl (l4)), (5, .inl (l5)), (6, .inl (l6)), (7, .inl (l7)), (8, .inl (l8))] [] M (xX1_reorder_24 t n l2 l3 l4 l5 l6 l7 l8 M) := by
  intro n
  induction n with
  | zero => intros; exact J_none
  | succ n ih =>
    intro l2 l3 l4 l5 l6 l7 l8 M
    rw [xX1_reorder_24.eq_2]
    refine K_iload (q := 26) 7 dX1_reorder_24 rfl rfl ?_
    refine K_bipush (q := 28) (v := nI 32) dX1_reorder_26 rfl rfl ?_
    refine K_icmp_ge (q := 31) (tgt := 73) dX1_reorder_28 rfl ?_ rfl ?_
    · refine K_aload_n (q := 74) 0 dX1_reorder_73 rfl rfl rfl ?_
      refine K_getR (q := 77) (ci := 0) (a2 := t + 1) 1 dX1_reorder_74 fRX1_11 rfl rfl (by decide) rfl rfl ?_
      refine K_iload (q := 79) 3 dX1_reorder_77 rfl rfl ?_
      refine K_iload_n (q := 80) 2 dX1_reorder_79 rfl rfl rfl ?_
      refine K_if_eq (q := 83) (tgt := 95) dX1_reorder_80 rfl ?_ rfl ?_
      · refine K_iload (q := 97) 5 dX1_reorder_95 rfl rfl ?_
        exact J_sub [] (tX1_reorder_97 t l4 l6 M) rfl
      · refine K_iload (q := 85) 5 dX1_reorder_83 rfl rfl ?_
        refine K_iload_n (q := 86) 1 dX1_reorder_85 rfl rfl rfl ?_
        refine K_iconst (q := 87) (v := nI 1) dX1_reorder_86 rfl rfl ?_
        refine K_iadd (q := 88) dX1_reorder_87 rfl ?_
        refine K_iload (q := 90) 6 dX1_reorder_88 rfl rfl ?_
        refine K_ishl (q := 91) dX1_reorder_90 rfl ?_
        refine K_ior (q := 92) dX1_reorder_91 rfl ?_
        refine J_goto (tgt := 97) dX1_reorder_92 rfl ?_
        exact J_sub [] (tX1_reorder_97 t l4 (l6 ||| ((l2 + (nI 1)) <<< (l7 &&& 31))) M) rfl
    · refine K_iload (q := 33) 4 dX1_reorder_31 rfl rfl ?_
      refine K_iload (q := 35) 7 dX1_reorder_33 rfl rfl ?_
      refine K_iushr (q := 36) dX1_reorder_35 rfl ?_
      refine K_bipush (q := 38) (v := nI 15) dX1_reorder_36 rfl rfl ?_
      refine K_iand (q := 39) dX1_reorder_38 rfl ?_
      refine K_istore (q := 41) (ll' := [(9, .inl ((us l5 l8) &&& (nI 15))), (0, .inr (10, 0, t)), (2, .inl (l2)), (3, .inl (l3)), (4, .inl (l4)), (5, .inl (l5)), (6, .inl (l6)), (7, .inl (l7)), (8, .inl (l8))]) dX1_reorder_39 (by decide) rfl rfl ?_
      refine K_iload (q := 43) 0 dX1_reorder_41 rfl rfl ?_
      refine K_if_eq (q := 46) (tgt := 67) dX1_reorder_43 rfl ?_ rfl ?_
      · refine K_iinc (q := 70) (v := l8 + (nI 4)) (ll' := [(8, .inl (l8 + (nI 4))), (9, .inl ((us l5 l8) &&& (nI 15))), (0, .inr (10, 0, t)), (2, .inl (l2)), (3, .inl (l3)), (4, .inl (l4)), (5, .inl (l5)), (6, .inl (l6)), (7, .inl (l7))]) 8 dX1_reorder_67 rfl rfl (by decide) rfl rfl ?_
        refine J_goto (tgt := 24) dX1_reorder_70 rfl ?_
        exact J_sub [2, 3, 4, 5, 6, 7, 8, 0] (ih l2 l3 l4 l5 l6 l7 (l8 + (nI 4)) M) rfl
      · refine K_iload (q := 48) 0 dX1_reorder_46 rfl rfl ?_
        refine K_iload_n (q := 49) 2 dX1_reorder_48 rfl rfl rfl ?_
        refine K_iconst (q := 50) (v := nI 1) dX1_reorder_49 rfl rfl ?_
        refine K_iadd (q := 51) dX1_reorder_50 rfl ?_
        refine K_icmp_eq (q := 54) (tgt := 67) dX1_reorder_51 rfl ?_ rfl ?_
        · refine K_iinc (q := 70) (v := l8 + (nI 4)) (ll' := [(8, .inl (l8 + (nI 4))), (9, .inl ((us l5 l8) &&& (nI 15))), (0, .inr (10, 0, t)), (2, .inl (l2)), (3, .inl (l3)), (4, .inl (l4)), (5, .inl (l5)), (6, .inl (l6)), (7, .inl (l7))]) 8 dX1_reorder_67 rfl rfl (by decide) rfl rfl ?_
          refine J_goto (tgt := 24) dX1_reorder_70 rfl ?_
          exact J_sub [2, 3, 4, 5, 6, 7, 8, 0] (ih l2 l3 l4 l5 l6 l7 (l8 + (nI 4)) M) rfl
        · refine K_iload (q := 56) 6 dX1_reorder_54 rfl rfl ?_
          refine K_iload (q := 58) 0 dX1_reorder_56 rfl rfl ?_
          refine K_iload (q := 60) 7 dX1_reorder_58 rfl rfl ?_
          refine K_ishl (q := 61) dX1_reorder_60 rfl ?_
          refine K_ior (q := 62) dX1_reorder_61 rfl ?_
          refine K_istore (q := 64) (ll' := [(6, .inl (l6 ||| (((us l5 l8) &&& (nI 15)) <<< (l7 &&& 31)))), (9, .inl ((us l5 l8) &&& (nI 15))), (0, .inr (10, 0, t)), (2, .inl (l2)), (3, .inl (l3)), (4, .inl (l4)), (5, .inl (l5)), (7, .inl (l7)), (8, .inl (l8))]) dX1_reorder_62 (by decide) rfl rfl ?_
          refine K_iinc (q := 67) (v := l7 + (nI 4)) (ll' := [(7, .inl (l7 + (nI 4))), (6, .inl (l6 ||| (((us l5 l8) &&& (nI 15)) <<< (l7 &&& 31)))), (9, .inl ((us l5 l8) &&& (nI 15))), (0, .inr (10, 0, t)), (2, .inl (l2)), (3, .inl (l3)), (4, .inl (l4)), (5, .inl (l5)), (8, .inl (l8))]) 7 dX1_reorder_64 rfl rfl (by decide) rfl rfl ?_
          refine K_iinc (q := 70) (v := l8 + (nI 4)) (ll' := [(8, .inl (l8 + (nI 4))), (7, .inl (l7 + (nI 4))), (6, .inl (l6 ||| (((us l5 l8) &&& (nI 15)) <<< (l7 &&& 31)))), (9, .inl ((us l5 l8) &&& (nI 15))), (0, .inr (10, 0, t)), (2, .inl (l2)), (3, .inl (l3)), (4, .inl (l4)), (5, .inl (l5))]) 8 dX1_reorder_67 rfl rfl (by decide) rfl rfl ?_
          refine J_goto (tgt := 24) dX1_reorder_70 rfl ?_
          exact J_sub [4, 5, 6, 7, 8, 2, 1, 0] (ih l2 l3 l4 l5 (l6 ||| (((us l5 l8) &&& (nI 15)) <<< (l7 &&& 31))) (l7 + (nI 4)) (l8 + (nI 4)) M) rfl
def xX1_reorder (t : Nat) (l1 : Int32) (l2 : Int32) (l3 : Int32) (M : j_M) : Option (j_M) := gd (l1 + (nI 14)) 112 (oli (M (t + 1) (ix (l1 + (nI 14)))) fun v1 => xX1_reorder_24 t fu l2 l3 (l1 + (nI 14)) v1 (nI 0) (nI 0) (nI 0) M)
set_option maxRecDepth 20000 in
set_option maxHeartbeats 2000000 in
theorem tX1_reorder (t : Nat) (l1 : Int32) (l2 : Int32) (l3 : Int32) (M : j_M) : J (ρ := j_M) yX1_reorder cX1_reorder 10 none 0 0 j_ev 0 [(0, .inr (10, 0, t)), (1, .inl (l1)), (2, .inl (l2)), (3, .inl (l3))] [] M (xX1_reorder t l1 l2 l3 M) := by
  unfold xX1_reorder
  refine K_iload_n (q := 1) 1 dX1_reorder_0 rfl rfl rfl ?_
  refine K_bipush (q := 3) (v := nI 14) dX1_reorder_1 rfl rfl ?_
  refine K_iadd (q := 4) dX1_reorder_3 rfl ?_
  refine K_istore (q := 6) (ll' := [(4, .inl (l1 + (nI 14))), (0, .inr (10, 0, t)), (1, .inl (l1)), (2, .inl (l2)), (3, .inl (l3))]) dX1_reorder_4 (by decide) rfl rfl ?_
  refine K_aload_n (q := 7) 1 dX1_reorder_6 rfl rfl rfl ?_
  refine K_getR (q := 10) (ci := 0) (a2 := t + 1) 1 dX1_reorder_7 fRX1_11 rfl rfl (by decide) rfl rfl ?_
  refine K_iload (q := 12) 0 dX1_reorder_10 rfl rfl ?_
  refine K_iald (q := 13) dX1_reorder_12 rfl (fun v1 => ?_)
  refine K_istore (q := 15) (ll' := [(5, .inl (v1)), (4, .inl (l1 + (nI 14))), (0, .inr (10, 0, t)), (1, .inl (l1)), (2, .inl (l2)), (3, .inl (l3))]) dX1_reorder_13 (by decide) rfl rfl ?_
  refine K_iconst (q := 16) (v := nI 0) dX1_reorder_15 rfl rfl ?_
  refine K_istore (q := 18) (ll' := [(6, .inl ((nI 0))), (5, .inl (v1)), (4, .inl (l1 + (nI 14))), (0, .inr (10, 0, t)), (1, .inl (l1)), (2, .inl (l2)), (3, .inl (l3))]) dX1_reorder_16 (by decide) rfl rfl ?_
  refine K_iconst (q := 19) (v := nI 0) dX1_reorder_18 rfl rfl ?_
  refine K_istore (q := 21) (ll' := [(7, .inl ((nI 0))), (6, .inl ((nI 0))), (5, .inl (v1)), (4, .inl (l1 + (nI 14))), (0, .inr (10, 0, t)), (1, .inl (l1)), (2, .inl (l2)), (3, .inl (l3))]) dX1_reorder_19 (by decide) rfl rfl ?_
  refine K_iconst (q := 22) (v := nI 0) dX1_reorder_21 rfl rfl ?_
  refine K_istore (q := 24) (ll' := [(8, .inl ((nI 0))), (7, .inl ((nI 0))), (6, .inl ((nI 0))), (5, .inl (v1)), (4, .inl (l1 + (nI 14))), (0, .inr (10, 0, t)), (1, .inl (l1)), (2, .inl (l2)), (3, .inl (l3))]) dX1_reorder_22 (by decide) rfl rfl ?_
  exact J_sub [5, 7, 8, 4, 3, 2, 1, 0] (tX1_reorder_24 t fu l2 l3 (l1 + (nI 14)) v1 (nI 0) (nI 0) (nI 0) M) rfl
theorem dX1_wouldHit_0 : decode cX1_wouldHit 0 = .ok (.aload_n 0, 1) := by decide +kernel
theorem dX1_wouldHit_1 : decode cX1_wouldHit 1 = .ok (.getfield 11, 3) := by decide +kernel
theorem dX1_wouldHit_4 : decode cX1_wouldHit 4 = .ok (.iload_n 1, 1) := by decide +kernel
theorem dX1_wouldHit_5 : decode cX1_wouldHit 5 = .ok (.invokestatic 73, 3) := by decide +kernel
theorem dX1_wouldHit_8 : decode cX1_wouldHit 8 = .ok (.iload_n 2, 1) := by decide +kernel
theorem dX1_wouldHit_9 : decode cX1_wouldHit 9 = .ok (.iadd, 1) := by decide +kernel
theorem dX1_wouldHit_10 : decode cX1_wouldHit 10 = .ok (.iaload, 1) := by decide +kernel
theorem dX1_wouldHit_11 : decode cX1_wouldHit 11 = .ok (.istore 4, 2) := by decide +kernel
theorem dX1_wouldHit_13 : decode cX1_wouldHit 13 = .ok (.iload_n 3, 1) := by decide +kernel
theorem dX1_wouldHit_14 : decode cX1_wouldHit 14 = .ok (.iconst 1, 1) := by decide +kernel
theorem dX1_wouldHit_15 : decode cX1_wouldHit 15 = .ok (.if_icmp .ne 7, 3) := by decide +kernel
theorem dX1_wouldHit_18 : decode cX1_wouldHit 18 = .ok (.iconst 1, 1) := by decide +kernel
theorem dX1_wouldHit_19 : decode cX1_wouldHit 19 = .ok (.goto 7, 3) := by decide +kernel
theorem dX1_wouldHit_22 : decode cX1_wouldHit 22 = .ok (.aload_n 0, 1) := by decide +kernel
theorem dX1_wouldHit_23 : decode cX1_wouldHit 23 = .ok (.getfield 37, 3) := by decide +kernel
theorem dX1_wouldHit_26 : decode cX1_wouldHit 26 = .ok (.istore 5, 2) := by decide +kernel
theorem dX1_wouldHit_28 : decode cX1_wouldHit 28 = .ok (.iload 4, 2) := by decide +kernel
theorem dX1_wouldHit_30 : decode cX1_wouldHit 30 = .ok (.invokestatic 99, 3) := by decide +kernel
theorem dX1_wouldHit_33 : decode cX1_wouldHit 33 = .ok (.ifCond .eq 17, 3) := by decide +kernel
theorem dX1_wouldHit_36 : decode cX1_wouldHit 36 = .ok (.iload 4, 2) := by decide +kernel
theorem dX1_wouldHit_38 : decode cX1_wouldHit 38 = .ok (.invokestatic 82, 3) := by decide +kernel
theorem dX1_wouldHit_41 : decode cX1_wouldHit 41 = .ok (.iload 5, 2) := by decide +kernel
theorem dX1_wouldHit_43 : decode cX1_wouldHit 43 = .ok (.if_icmp .lt 7, 3) := by decide +kernel
theorem dX1_wouldHit_46 : decode cX1_wouldHit 46 = .ok (.iconst 1, 1) := by decide +kernel
theorem dX1_wouldHit_47 : decode cX1_wouldHit 47 = .ok (.goto 4, 3) := by decide +kernel
theorem dX1_wouldHit_50 : decode cX1_wouldHit 50 = .ok (.iconst 0, 1) := by decide +kernel
theorem dX1_wouldHit_51 : decode cX1_wouldHit 51 = .ok (.ireturn, 1) := by decide +kernel
def xX1_wouldHit_26  (t : Nat) (l4 : Int32) (s0 : Int32) (M : j_M) : Option (Int32 × j_M) := obi (xX3_isValid l4 M) fun v2 M1 => (if v2 = (0 : Int32) then some ((nI 0), M1) else obi (xX3_count l4 M1) fun v4 M3 => (if v4 < s0 then some ((nI 0), M3) else some ((nI 1), M3)))
set_option maxRecDepth 20000 in
set_option maxHeartbeats 2000000 in
theorem tX1_wouldHit_26  (t : Nat)  (l4 : Int32) (s0 : Int32) (M : j_M) : J (ρ := Int32 × j_M) yX1_wouldHit cX1_wouldHit 6 (some .boolean) 1 20 j_ei 26 [(4, .inl (l4))] [.inl (s0)] M (xX1_wouldHit_26 t l4 s0 M) := by
  unfold xX1_wouldHit_26
  refine K_istore (q := 28) (ll' := [(5, .inl (s0)), (4, .inl (l4))]) dX1_wouldHit_26 (by decide) rfl rfl ?_
  refine K_iload (q := 30) 1 dX1_wouldHit_28 rfl rfl ?_
  refine K_csi (q := 33) [.inl (l4)] dX1_wouldHit_30 cb_X3_isValid cvRX1_99 rfl (Nat.le_of_ble_eq_true rfl) ⟨by decide, by decide⟩ (Nat.le_of_ble_eq_true rfl) rfl (tX3_isValid l4 M) rfl (fun v2 M1 => ?_)
  refine K_if_eq (q := 36) (tgt := 50) dX1_wouldHit_33 rfl ?_ rfl ?_
  · refine K_iconst (q := 51) (v := nI 0) dX1_wouldHit_50 rfl rfl ?_
    exact J_zret dX1_wouldHit_51 (by decide)
  · refine K_iload (q := 38) 1 dX1_wouldHit_36 rfl rfl ?_
    refine K_csi (q := 41) [.inl (l4)] dX1_wouldHit_38 cb_X3_count cvRX1_82 rfl (Nat.le_of_ble_eq_true rfl) ⟨by decide, by decide⟩ (Nat.le_of_ble_eq_true rfl) rfl (tX3_count l4 M1) rfl (fun v4 M3 => ?_)
    refine K_iload (q := 43) 0 dX1_wouldHit_41 rfl rfl ?_
    refine K_icmp_lt (q := 46) (tgt := 50) dX1_wouldHit_43 rfl ?_ rfl ?_
    · refine K_iconst (q := 51) (v := nI 0) dX1_wouldHit_50 rfl rfl ?_
      exact J_zret dX1_wouldHit_51 (by decide)
    · refine K_iconst (q := 47) (v := nI 1) dX1_wouldHit_46 rfl rfl ?_
      refine J_goto (tgt := 51) dX1_wouldHit_47 rfl ?_
      exact J_zret dX1_wouldHit_51 (by decide)
def xX1_wouldHit (t : Nat) (l1 : Int32) (l2 : Int32) (l3 : Int32) (M : j_M) : Option (Int32 × j_M) := obi (xX1_blockOf l1 M) fun v2 M1 => gd (v2 + l2) 112 (oli (M1 (t + 1) (ix (v2 + l2))) fun v3 => (if l3 = (nI 1) then xX1_wouldHit_26 t v3 (nI 1) M1 else oli (M1 t 10) fun v4 => xX1_wouldHit_26 t v3 v4 M1))
set_option maxRecDepth 20000 in
set_option maxHeartbeats 2000000 in
theorem tX1_wouldHit (t : Nat) (l1 : Int32) (l2 : Int32) (l3 : Int32) (M : j_M) : J (ρ := Int32 × j_M) yX1_wouldHit cX1_wouldHit 6 (some .boolean) 1 20 j_ei 0 [(0, .inr (10, 0, t)), (1, .inl (l1)), (2, .inl (l2)), (3, .inl (l3))] [] M (xX1_wouldHit t l1 l2 l3 M) := by
  unfold xX1_wouldHit
  refine K_aload_n (q := 1) 0 dX1_wouldHit_0 rfl rfl rfl ?_
  refine K_getR (q := 4) (ci := 0) (a2 := t + 1) 1 dX1_wouldHit_1 fRX1_11 rfl rfl (by decide) rfl rfl ?_
  refine K_iload_n (q := 5) 1 dX1_wouldHit_4 rfl rfl rfl ?_
  refine K_csi (q := 8) [.inl (l1)] dX1_wouldHit_5 cb_X1_blockOf cvRX1_73 rfl (Nat.le_of_ble_eq_true rfl) ⟨by decide, by decide⟩ (Nat.le_of_ble_eq_true rfl) rfl (tX1_blockOf l1 M) rfl (fun v2 M1 => ?_)
  refine K_iload_n (q := 9) 2 dX1_wouldHit_8 rfl rfl rfl ?_
  refine K_iadd (q := 10) dX1_wouldHit_9 rfl ?_
  refine K_iald (q := 11) dX1_wouldHit_10 rfl (fun v3 => ?_)
  refine K_istore (q := 13) (ll' := [(4, .inl (v3)), (0, .inr (10, 0, t)), (1, .inl (l1)), (2, .inl (l2)), (3, .inl (l3))]) dX1_wouldHit_11 (by decide) rfl rfl ?_
  refine K_iload_n (q := 14) 4 dX1_wouldHit_13 rfl rfl rfl ?_
  refine K_iconst (q := 15) (v := nI 1) dX1_wouldHit_14 rfl rfl ?_
  refine K_icmp_ne (q := 18) (tgt := 22) dX1_wouldHit_15 rfl ?_ rfl ?_
  · refine K_aload_n (q := 23) 1 dX1_wouldHit_22 rfl rfl rfl ?_
    refine K_getI (q := 26) (ci := 0) 10 dX1_wouldHit_23 fRX1_37 rfl rfl rfl (fun v4 => ?_)
    exact J_sub [0] (tX1_wouldHit_26 t v3 v4 M1) rfl
  · refine K_iconst (q := 19) (v := nI 1) dX1_wouldHit_18 rfl rfl ?_
    refine J_goto (tgt := 26) dX1_wouldHit_19 rfl ?_
    exact J_sub [0] (tX1_wouldHit_26 t v3 (nI 1) M1) rfl
theorem dX11_isLine_0 : decode cX11_isLine 0 = .ok (.iload_n 0, 1) := by decide +kernel
theorem dX11_isLine_1 : decode cX11_isLine 1 = .ok (.ifCond .lt 13, 3) := by decide +kernel
theorem dX11_isLine_4 : decode cX11_isLine 4 = .ok (.iload_n 0, 1) := by decide +kernel
theorem dX11_isLine_5 : decode cX11_isLine 5 = .ok (.bipush 8, 2) := by decide +kernel
theorem dX11_isLine_7 : decode cX11_isLine 7 = .ok (.if_icmp .ge 7, 3) := by decide +kernel
theorem dX11_isLine_10 : decode cX11_isLine 10 = .ok (.iconst 1, 1) := by decide +kernel
theorem dX11_isLine_11 : decode cX11_isLine 11 = .ok (.goto 4, 3) := by decide +kernel
theorem dX11_isLine_14 : decode cX11_isLine 14 = .ok (.iconst 0, 1) := by decide +kernel
theorem dX11_isLine_15 : decode cX11_isLine 15 = .ok (.ireturn, 1) := by decide +kernel
def xX11_isLine  (l0 : Int32) (M : j_M) : Option (Int32 × j_M) := (if l0 < (0 : Int32) then some ((nI 0), M) else (if (nI 8) ≤ l0 then some ((nI 0), M) else some ((nI 1), M)))
set_option maxRecDepth 20000 in
set_option maxHeartbeats 2000000 in
theorem tX11_isLine  (l0 : Int32) (M : j_M) : J (ρ := Int32 × j_M) yX11_isLine cX11_isLine 1 (some .boolean) 0 0 j_ei 0 [(0, .inl (l0))] [] M (xX11_isLine  l0 M) := by
  unfold xX11_isLine
  refine K_iload_n (q := 1) 0 dX11_isLine_0 rfl rfl rfl ?_
  refine K_if_lt (q := 4) (tgt := 14) dX11_isLine_1 rfl ?_ rfl ?_
  · refine K_iconst (q := 15) (v := nI 0) dX11_isLine_14 rfl rfl ?_
    exact J_zret dX11_isLine_15 (by decide)
  · refine K_iload_n (q := 5) 0 dX11_isLine_4 rfl rfl rfl ?_
    refine K_bipush (q := 7) (v := nI 8) dX11_isLine_5 rfl rfl ?_
    refine K_icmp_ge (q := 10) (tgt := 14) dX11_isLine_7 rfl ?_ rfl ?_
    · refine K_iconst (q := 15) (v := nI 0) dX11_isLine_14 rfl rfl ?_
      exact J_zret dX11_isLine_15 (by decide)
    · refine K_iconst (q := 11) (v := nI 1) dX11_isLine_10 rfl rfl ?_
      refine J_goto (tgt := 15) dX11_isLine_11 rfl ?_
      exact J_zret dX11_isLine_15 (by decide)
theorem dX1_isCpu_0 : decode cX1_isCpu 0 = .ok (.iload_n 1, 1) := by decide +kernel
theorem dX1_isCpu_1 : decode cX1_isCpu 1 = .ok (.ifCond .lt 15, 3) := by decide +kernel
theorem dX1_isCpu_4 : decode cX1_isCpu 4 = .ok (.iload_n 1, 1) := by decide +kernel
theorem dX1_isCpu_5 : decode cX1_isCpu 5 = .ok (.aload_n 0, 1) := by decide +kernel
theorem dX1_isCpu_6 : decode cX1_isCpu 6 = .ok (.getfield 33, 3) := by decide +kernel
theorem dX1_isCpu_9 : decode cX1_isCpu 9 = .ok (.if_icmp .ge 7, 3) := by decide +kernel
theorem dX1_isCpu_12 : decode cX1_isCpu 12 = .ok (.iconst 1, 1) := by decide +kernel
theorem dX1_isCpu_13 : decode cX1_isCpu 13 = .ok (.goto 4, 3) := by decide +kernel
theorem dX1_isCpu_16 : decode cX1_isCpu 16 = .ok (.iconst 0, 1) := by decide +kernel
theorem dX1_isCpu_17 : decode cX1_isCpu 17 = .ok (.ireturn, 1) := by decide +kernel
def xX1_isCpu (t : Nat) (l1 : Int32) (M : j_M) : Option (Int32 × j_M) := (if l1 < (0 : Int32) then some ((nI 0), M) else oli (M t 9) fun v1 => (if v1 ≤ l1 then some ((nI 0), M) else some ((nI 1), M)))
set_option maxRecDepth 20000 in
set_option maxHeartbeats 2000000 in
theorem tX1_isCpu (t : Nat) (l1 : Int32) (M : j_M) : J (ρ := Int32 × j_M) yX1_isCpu cX1_isCpu 2 (some .boolean) 0 0 j_ei 0 [(0, .inr (10, 0, t)), (1, .inl (l1))] [] M (xX1_isCpu t l1 M) := by
  unfold xX1_isCpu
  refine K_iload_n (q := 1) 1 dX1_isCpu_0 rfl rfl rfl ?_
  refine K_if_lt (q := 4) (tgt := 16) dX1_isCpu_1 rfl ?_ rfl ?_
  · refine K_iconst (q := 17) (v := nI 0) dX1_isCpu_16 rfl rfl ?_
    exact J_zret dX1_isCpu_17 (by decide)
  · refine K_iload_n (q := 5) 1 dX1_isCpu_4 rfl rfl rfl ?_
    refine K_aload_n (q := 6) 0 dX1_isCpu_5 rfl rfl rfl ?_
    refine K_getI (q := 9) (ci := 0) 9 dX1_isCpu_6 fRX1_33 rfl rfl rfl (fun v1 => ?_)
    refine K_icmp_ge (q := 12) (tgt := 16) dX1_isCpu_9 rfl ?_ rfl ?_
    · refine K_iconst (q := 17) (v := nI 0) dX1_isCpu_16 rfl rfl ?_
      exact J_zret dX1_isCpu_17 (by decide)
    · refine K_iconst (q := 13) (v := nI 1) dX1_isCpu_12 rfl rfl ?_
      refine J_goto (tgt := 17) dX1_isCpu_13 rfl ?_
      exact J_zret dX1_isCpu_17 (by decide)
theorem dX1_mayBegin_0 : decode cX1_mayBegin 0 = .ok (.aload_n 0, 1) := by decide +kernel
theorem dX1_mayBegin_1 : decode cX1_mayBegin 1 = .ok (.iload_n 1, 1) := by decide +kernel
theorem dX1_mayBegin_2 : decode cX1_mayBegin 2 = .ok (.invokevirtual 92, 3) := by decide +kernel
theorem dX1_mayBegin_5 : decode cX1_mayBegin 5 = .ok (.ifCond .eq 33, 3) := by decide +kernel
theorem dX1_mayBegin_8 : decode cX1_mayBegin 8 = .ok (.iload_n 2, 1) := by decide +kernel
theorem dX1_mayBegin_9 : decode cX1_mayBegin 9 = .ok (.invokestatic 96, 3) := by decide +kernel
theorem dX1_mayBegin_12 : decode cX1_mayBegin 12 = .ok (.ifCond .eq 26, 3) := by decide +kernel
theorem dX1_mayBegin_15 : decode cX1_mayBegin 15 = .ok (.iload_n 3, 1) := by decide +kernel
theorem dX1_mayBegin_16 : decode cX1_mayBegin 16 = .ok (.ifCond .lt 22, 3) := by decide +kernel
theorem dX1_mayBegin_19 : decode cX1_mayBegin 19 = .ok (.iload_n 3, 1) := by decide +kernel
theorem dX1_mayBegin_20 : decode cX1_mayBegin 20 = .ok (.sipush 9999, 3) := by decide +kernel
theorem dX1_mayBegin_23 : decode cX1_mayBegin 23 = .ok (.if_icmp .gt 15, 3) := by decide +kernel
theorem dX1_mayBegin_26 : decode cX1_mayBegin 26 = .ok (.aload_n 0, 1) := by decide +kernel
theorem dX1_mayBegin_27 : decode cX1_mayBegin 27 = .ok (.iload_n 1, 1) := by decide +kernel
theorem dX1_mayBegin_28 : decode cX1_mayBegin 28 = .ok (.invokevirtual 85, 3) := by decide +kernel
theorem dX1_mayBegin_31 : decode cX1_mayBegin 31 = .ok (.ifCond .ne 7, 3) := by decide +kernel
theorem dX1_mayBegin_34 : decode cX1_mayBegin 34 = .ok (.iconst 1, 1) := by decide +kernel
theorem dX1_mayBegin_35 : decode cX1_mayBegin 35 = .ok (.goto 4, 3) := by decide +kernel
theorem dX1_mayBegin_38 : decode cX1_mayBegin 38 = .ok (.iconst 0, 1) := by decide +kernel
theorem dX1_mayBegin_39 : decode cX1_mayBegin 39 = .ok (.ireturn, 1) := by decide +kernel
def xX1_mayBegin (t : Nat) (l1 : Int32) (l2 : Int32) (l3 : Int32) (M : j_M) : Option (Int32 × j_M) := obi (xX1_isCpu t l1 M) fun v2 M1 => (if v2 = (0 : Int32) then some ((nI 0), M1) else obi (xX11_isLine l2 M1) fun v4 M3 => (if v4 = (0 : Int32) then some ((nI 0), M3) else (if l3 < (0 : Int32) then some ((nI 0), M3) else (if (nI 9999) < l3 then some ((nI 0), M3) else obi (xX1_missOf t l1 M3) fun v6 M5 => (if v6 = (0 : Int32) then some ((nI 1), M5) else some ((nI 0), M5))))))
set_option maxRecDepth 20000 in
set_option maxHeartbeats 2000000 in
theorem tX1_mayBegin (t : Nat) (l1 : Int32) (l2 : Int32) (l3 : Int32) (M : j_M) : J (ρ := Int32 × j_M) yX1_mayBegin cX1_mayBegin 4 (some .boolean) 2 41 j_ei 0 [(0, .inr (10, 0, t)), (1, .inl (l1)), (2, .inl (l2)), (3, .inl (l3))] [] M (xX1_mayBegin t l1 l2 l3 M) := by
  unfold xX1_mayBegin
  refine K_aload_n (q := 1) 0 dX1_mayBegin_0 rfl rfl rfl ?_
  refine K_iload_n (q := 2) 1 dX1_mayBegin_1 rfl rfl rfl ?_
  refine K_cvi (q := 5) [.inl (l1)] dX1_mayBegin_2 cb_X1_isCpu cvRX1_92 rc_0 (show (10 : Nat) ≠ 0 by decide) rfl (Nat.le_of_ble_eq_true rfl) ⟨by decide, by decide⟩ (Nat.le_of_ble_eq_true rfl) rfl (tX1_isCpu t l1 M) rfl (fun v2 M1 => ?_)
  refine K_if_eq (q := 8) (tgt := 38) dX1_mayBegin_5 rfl ?_ rfl ?_
  · refine K_iconst (q := 39) (v := nI 0) dX1_mayBegin_38 rfl rfl ?_
    exact J_zret dX1_mayBegin_39 (by decide)
  · refine K_iload_n (q := 9) 2 dX1_mayBegin_8 rfl rfl rfl ?_
    refine K_csi (q := 12) [.inl (l2)] dX1_mayBegin_9 cb_X11_isLine cvRX1_96 rfl (Nat.le_of_ble_eq_true rfl) ⟨by decide, by decide⟩ (Nat.le_of_ble_eq_true rfl) rfl (tX11_isLine l2 M1) rfl (fun v4 M3 => ?_)
    refine K_if_eq (q := 15) (tgt := 38) dX1_mayBegin_12 rfl ?_ rfl ?_
    · refine K_iconst (q := 39) (v := nI 0) dX1_mayBegin_38 rfl rfl ?_
      exact J_zret dX1_mayBegin_39 (by decide)
    · refine K_iload_n (q := 16) 3 dX1_mayBegin_15 rfl rfl rfl ?_
      refine K_if_lt (q := 19) (tgt := 38) dX1_mayBegin_16 rfl ?_ rfl ?_
      · refine K_iconst (q := 39) (v := nI 0) dX1_mayBegin_38 rfl rfl ?_
        exact J_zret dX1_mayBegin_39 (by decide)
      · refine K_iload_n (q := 20) 3 dX1_mayBegin_19 rfl rfl rfl ?_
        refine K_sipush (q := 23) (v := nI 9999) dX1_mayBegin_20 rfl rfl ?_
        refine K_icmp_gt (q := 26) (tgt := 38) dX1_mayBegin_23 rfl ?_ rfl ?_
        · refine K_iconst (q := 39) (v := nI 0) dX1_mayBegin_38 rfl rfl ?_
          exact J_zret dX1_mayBegin_39 (by decide)
        · refine K_aload_n (q := 27) 0 dX1_mayBegin_26 rfl rfl rfl ?_
          refine K_iload_n (q := 28) 1 dX1_mayBegin_27 rfl rfl rfl ?_
          refine K_cvi (q := 31) [.inl (l1)] dX1_mayBegin_28 cb_X1_missOf cvRX1_85 rc_0 (show (10 : Nat) ≠ 0 by decide) rfl (Nat.le_of_ble_eq_true rfl) ⟨by decide, by decide⟩ (Nat.le_of_ble_eq_true rfl) rfl (tX1_missOf t l1 M3) rfl (fun v6 M5 => ?_)
          refine K_if_ne (q := 34) (tgt := 38) dX1_mayBegin_31 rfl ?_ rfl ?_
          · refine K_iconst (q := 39) (v := nI 0) dX1_mayBegin_38 rfl rfl ?_
            exact J_zret dX1_mayBegin_39 (by decide)
          · refine K_iconst (q := 35) (v := nI 1) dX1_mayBegin_34 rfl rfl ?_
            refine J_goto (tgt := 39) dX1_mayBegin_35 rfl ?_
            exact J_zret dX1_mayBegin_39 (by decide)
theorem dX1_hand_0 : decode cX1_hand 0 = .ok (.iload_n 1, 1) := by decide +kernel
theorem dX1_hand_1 : decode cX1_hand 1 = .ok (.invokestatic 73, 3) := by decide +kernel
theorem dX1_hand_4 : decode cX1_hand 4 = .ok (.istore 7, 2) := by decide +kernel
theorem dX1_hand_6 : decode cX1_hand 6 = .ok (.iload 7, 2) := by decide +kernel
theorem dX1_hand_8 : decode cX1_hand 8 = .ok (.iload_n 3, 1) := by decide +kernel
theorem dX1_hand_9 : decode cX1_hand 9 = .ok (.iadd, 1) := by decide +kernel
theorem dX1_hand_10 : decode cX1_hand 10 = .ok (.istore 8, 2) := by decide +kernel
theorem dX1_hand_12 : decode cX1_hand 12 = .ok (.aload_n 0, 1) := by decide +kernel
theorem dX1_hand_13 : decode cX1_hand 13 = .ok (.getfield 11, 3) := by decide +kernel
theorem dX1_hand_16 : decode cX1_hand 16 = .ok (.iload 8, 2) := by decide +kernel
theorem dX1_hand_18 : decode cX1_hand 18 = .ok (.iaload, 1) := by decide +kernel
theorem dX1_hand_19 : decode cX1_hand 19 = .ok (.istore 9, 2) := by decide +kernel
theorem dX1_hand_21 : decode cX1_hand 21 = .ok (.iload 4, 2) := by decide +kernel
theorem dX1_hand_23 : decode cX1_hand 23 = .ok (.istore 10, 2) := by decide +kernel
theorem dX1_hand_25 : decode cX1_hand 25 = .ok (.iload 5, 2) := by decide +kernel
theorem dX1_hand_27 : decode cX1_hand 27 = .ok (.ifCond .eq 10, 3) := by decide +kernel
theorem dX1_hand_30 : decode cX1_hand 30 = .ok (.iload 10, 2) := by decide +kernel
theorem dX1_hand_32 : decode cX1_hand 32 = .ok (.bipush 16, 2) := by decide +kernel
theorem dX1_hand_34 : decode cX1_hand 34 = .ok (.ior, 1) := by decide +kernel
theorem dX1_hand_35 : decode cX1_hand 35 = .ok (.istore 10, 2) := by decide +kernel
theorem dX1_hand_37 : decode cX1_hand 37 = .ok (.iload 6, 2) := by decide +kernel
theorem dX1_hand_39 : decode cX1_hand 39 = .ok (.ifCond .eq 17, 3) := by decide +kernel
theorem dX1_hand_42 : decode cX1_hand 42 = .ok (.iload 10, 2) := by decide +kernel
theorem dX1_hand_44 : decode cX1_hand 44 = .ok (.iload 9, 2) := by decide +kernel
theorem dX1_hand_46 : decode cX1_hand 46 = .ok (.invokestatic 127, 3) := by decide +kernel
theorem dX1_hand_49 : decode cX1_hand 49 = .ok (.iconst 1, 1) := by decide +kernel
theorem dX1_hand_50 : decode cX1_hand 50 = .ok (.iadd, 1) := by decide +kernel
theorem dX1_hand_51 : decode cX1_hand 51 = .ok (.iconst 5, 1) := by decide +kernel
theorem dX1_hand_52 : decode cX1_hand 52 = .ok (.ishl, 1) := by decide +kernel
theorem dX1_hand_53 : decode cX1_hand 53 = .ok (.ior, 1) := by decide +kernel
theorem dX1_hand_54 : decode cX1_hand 54 = .ok (.istore 10, 2) := by decide +kernel
theorem dX1_hand_56 : decode cX1_hand 56 = .ok (.iload 4, 2) := by decide +kernel
theorem dX1_hand_58 : decode cX1_hand 58 = .ok (.iload 9, 2) := by decide +kernel
theorem dX1_hand_60 : decode cX1_hand 60 = .ok (.invokestatic 82, 3) := by decide +kernel
theorem dX1_hand_63 : decode cX1_hand 63 = .ok (.if_icmp .ge 31, 3) := by decide +kernel
theorem dX1_hand_66 : decode cX1_hand 66 = .ok (.aload_n 0, 1) := by decide +kernel
theorem dX1_hand_67 : decode cX1_hand 67 = .ok (.getfield 11, 3) := by decide +kernel
theorem dX1_hand_70 : decode cX1_hand 70 = .ok (.iload 8, 2) := by decide +kernel
theorem dX1_hand_72 : decode cX1_hand 72 = .ok (.iload 5, 2) := by decide +kernel
theorem dX1_hand_74 : decode cX1_hand 74 = .ok (.ifCond .eq 11, 3) := by decide +kernel
theorem dX1_hand_77 : decode cX1_hand 77 = .ok (.iload 9, 2) := by decide +kernel
theorem dX1_hand_79 : decode cX1_hand 79 = .ok (.bipush (-17), 2) := by decide +kernel
theorem dX1_hand_81 : decode cX1_hand 81 = .ok (.iand, 1) := by decide +kernel
theorem dX1_hand_82 : decode cX1_hand 82 = .ok (.goto 5, 3) := by decide +kernel
theorem dX1_hand_85 : decode cX1_hand 85 = .ok (.iload 9, 2) := by decide +kernel
theorem dX1_hand_87 : decode cX1_hand 87 = .ok (.iload 4, 2) := by decide +kernel
theorem dX1_hand_89 : decode cX1_hand 89 = .ok (.isub, 1) := by decide +kernel
theorem dX1_hand_90 : decode cX1_hand 90 = .ok (.iastore, 1) := by decide +kernel
theorem dX1_hand_91 : decode cX1_hand 91 = .ok (.goto 25, 3) := by decide +kernel
theorem dX1_hand_94 : decode cX1_hand 94 = .ok (.aload_n 0, 1) := by decide +kernel
theorem dX1_hand_95 : decode cX1_hand 95 = .ok (.getfield 11, 3) := by decide +kernel
theorem dX1_hand_98 : decode cX1_hand 98 = .ok (.iload 8, 2) := by decide +kernel
theorem dX1_hand_100 : decode cX1_hand 100 = .ok (.iconst 0, 1) := by decide +kernel
theorem dX1_hand_101 : decode cX1_hand 101 = .ok (.iastore, 1) := by decide +kernel
theorem dX1_hand_102 : decode cX1_hand 102 = .ok (.iload_n 1, 1) := by decide +kernel
theorem dX1_hand_103 : decode cX1_hand 103 = .ok (.bipush 6, 2) := by decide +kernel
theorem dX1_hand_105 : decode cX1_hand 105 = .ok (.if_icmp .eq 11, 3) := by decide +kernel
theorem dX1_hand_108 : decode cX1_hand 108 = .ok (.aload_n 0, 1) := by decide +kernel
theorem dX1_hand_109 : decode cX1_hand 109 = .ok (.iload 7, 2) := by decide +kernel
theorem dX1_hand_111 : decode cX1_hand 111 = .ok (.iload_n 3, 1) := by decide +kernel
theorem dX1_hand_112 : decode cX1_hand 112 = .ok (.iconst 0, 1) := by decide +kernel
theorem dX1_hand_113 : decode cX1_hand 113 = .ok (.invokevirtual 138, 3) := by decide +kernel
theorem dX1_hand_116 : decode cX1_hand 116 = .ok (.aload_n 0, 1) := by decide +kernel
theorem dX1_hand_117 : decode cX1_hand 117 = .ok (.iload_n 1, 1) := by decide +kernel
theorem dX1_hand_118 : decode cX1_hand 118 = .ok (.iload_n 2, 1) := by decide +kernel
theorem dX1_hand_119 : decode cX1_hand 119 = .ok (.iconst 3, 1) := by decide +kernel
theorem dX1_hand_120 : decode cX1_hand 120 = .ok (.iload_n 3, 1) := by decide +kernel
theorem dX1_hand_121 : decode cX1_hand 121 = .ok (.iload 10, 2) := by decide +kernel
theorem dX1_hand_123 : decode cX1_hand 123 = .ok (.invokevirtual 152, 3) := by decide +kernel
theorem dX1_hand_126 : decode cX1_hand 126 = .ok (.return_, 1) := by decide +kernel
def xX1_hand_116  (t : Nat) (l1 : Int32) (l2 : Int32) (l3 : Int32) (l10 : Int32) (M : j_M) : Option (j_M) := obv (xX1_post t l1 l2 (nI 3) l3 l10 M) fun M1 => some M1
set_option maxRecDepth 20000 in
set_option maxHeartbeats 2000000 in
theorem tX1_hand_116  (t : Nat)  (l1 : Int32) (l2 : Int32) (l3 : Int32) (l10 : Int32) (M : j_M) : J (ρ := j_M) yX1_hand cX1_hand 11 none 1 29 j_ev 116 [(0, .inr (10, 0, t)), (1, .inl (l1)), (2, .inl (l2)), (3, .inl (l3)), (10, .inl (l10))] [] M (xX1_hand_116 t l1 l2 l3 l10 M) := by
  unfold xX1_hand_116
  refine K_aload_n (q := 117) 0 dX1_hand_116 rfl rfl rfl ?_
  refine K_iload_n (q := 118) 1 dX1_hand_117 rfl rfl rfl ?_
  refine K_iload_n (q := 119) 2 dX1_hand_118 rfl rfl rfl ?_
  refine K_iconst (q := 120) (v := nI 3) dX1_hand_119 rfl rfl ?_
  refine K_iload_n (q := 121) 3 dX1_hand_120 rfl rfl rfl ?_
  refine K_iload (q := 123) 4 dX1_hand_121 rfl rfl ?_
  refine K_cvv (q := 126) [.inl (l1), .inl (l2), .inl ((nI 3)), .inl (l3), .inl (l10)] dX1_hand_123 cb_X1_post cvRX1_152 rc_0 (show (10 : Nat) ≠ 0 by decide) rfl (Nat.le_of_ble_eq_true rfl) ⟨by decide, by decide⟩ (Nat.le_of_ble_eq_true rfl) rfl (tX1_post t l1 l2 (nI 3) l3 l10 M) rfl (fun M1 => ?_)
  exact J_vret dX1_hand_126
def xX1_hand_87  (t : Nat) (l1 : Int32) (l2 : Int32) (l3 : Int32) (l4 : Int32) (l10 : Int32) (s1 : Int32) (s0 : Int32) (M : j_M) : Option (j_M) := gd s1 112 (oml (mw M (t + 1) (ix s1) (s0 - l4)) fun M1 => xX1_hand_116 t l1 l2 l3 l10 M1)
set_option maxRecDepth 20000 in
set_option maxHeartbeats 2000000 in
theorem tX1_hand_87  (t : Nat)  (l1 : Int32) (l2 : Int32) (l3 : Int32) (l4 : Int32) (l10 : Int32) (s1 : Int32) (s0 : Int32) (M : j_M) : J (ρ := j_M) yX1_hand cX1_hand 11 none 1 29 j_ev 87 [(0, .inr (10, 0, t)), (1, .inl (l1)), (2, .inl (l2)), (3, .inl (l3)), (4, .inl (l4)), (10, .inl (l10))] [.inl (s0), .inl (s1), .inr (1, 112, t + 1)] M (xX1_hand_87 t l1 l2 l3 l4 l10 s1 s0 M) := by
  unfold xX1_hand_87
  refine K_iload (q := 89) 4 dX1_hand_87 rfl rfl ?_
  refine K_isub (q := 90) dX1_hand_89 rfl ?_
  refine K_iast (q := 91) dX1_hand_90 rfl (fun M1 => ?_)
  refine J_goto (tgt := 116) dX1_hand_91 rfl ?_
  exact J_sub [0, 1, 2, 3, 5] (tX1_hand_116 t l1 l2 l3 l10 M1) rfl
def xX1_hand_56  (t : Nat) (l1 : Int32) (l2 : Int32) (l3 : Int32) (l4 : Int32) (l5 : Int32) (l7 : Int32) (l8 : Int32) (l9 : Int32) (l10 : Int32) (M : j_M) : Option (j_M) := obi (xX3_count l9 M) fun v2 M1 => (if v2 ≤ l4 then gd l8 112 (oml (mw M1 (t + 1) (ix l8) (nI 0)) fun M3 => (if l1 = (nI 6) then xX1_hand_116 t l1 l2 l3 l10 M3 else obv (xX1_reorder t l7 l3 (nI 0) M3) fun M4 => xX1_hand_116 t l1 l2 l3 l10 M4)) else (if l5 = (0 : Int32) then xX1_hand_87 t l1 l2 l3 l4 l10 l8 l9 M1 else xX1_hand_87 t l1 l2 l3 l4 l10 l8 (l9 &&& (-17 : Int32)) M1))
set_option maxRecDepth 20000 in
set_option maxHeartbeats 2000000 in
theorem tX1_hand_56  (t : Nat)  (l1 : Int32) (l2 : Int32) (l3 : Int32) (l4 : Int32) (l5 : Int32) (l7 : Int32) (l8 : Int32) (l9 : Int32) (l10 : Int32) (M : j_M) : J (ρ := j_M) yX1_hand cX1_hand 11 none 1 29 j_ev 56 [(0, .inr (10, 0, t)), (1, .inl (l1)), (2, .inl (l2)), (3, .inl (l3)), (4, .inl (l4)), (5, .inl (l5)), (7, .inl (l7)), (8, .inl (l8)), (9, .inl (l9)), (10, .inl (l10))] [] M (xX1_hand_56 t l1 l2 l3 l4 l5 l7 l8 l9 l10 M) := by
  unfold xX1_hand_56
  refine K_iload (q := 58) 4 dX1_hand_56 rfl rfl ?_
  refine K_iload (q := 60) 8 dX1_hand_58 rfl rfl ?_
  refine K_csi (q := 63) [.inl (l9)] dX1_hand_60 cb_X3_count cvRX1_82 rfl (Nat.le_of_ble_eq_true rfl) ⟨by decide, by decide⟩ (Nat.le_of_ble_eq_true rfl) rfl (tX3_count l9 M) rfl (fun v2 M1 => ?_)
  refine K_icmp_ge (q := 66) (tgt := 94) dX1_hand_63 rfl ?_ rfl ?_
  · refine K_aload_n (q := 95) 0 dX1_hand_94 rfl rfl rfl ?_
    refine K_getR (q := 98) (ci := 0) (a2 := t + 1) 1 dX1_hand_95 fRX1_11 rfl rfl (by decide) rfl rfl ?_
    refine K_iload (q := 100) 7 dX1_hand_98 rfl rfl ?_
    refine K_iconst (q := 101) (v := nI 0) dX1_hand_100 rfl rfl ?_
    refine K_iast (q := 102) dX1_hand_101 rfl (fun M3 => ?_)
    refine K_iload_n (q := 103) 1 dX1_hand_102 rfl rfl rfl ?_
    refine K_bipush (q := 105) (v := nI 6) dX1_hand_103 rfl rfl ?_
    refine K_icmp_eq (q := 108) (tgt := 116) dX1_hand_105 rfl ?_ rfl ?_
    · exact J_sub [0, 1, 2, 3, 9] (tX1_hand_116 t l1 l2 l3 l10 M3) rfl
    · refine K_aload_n (q := 109) 0 dX1_hand_108 rfl rfl rfl ?_
      refine K_iload (q := 111) 6 dX1_hand_109 rfl rfl ?_
      refine K_iload_n (q := 112) 3 dX1_hand_111 rfl rfl rfl ?_
      refine K_iconst (q := 113) (v := nI 0) dX1_hand_112 rfl rfl ?_
      refine K_cvv (q := 116) [.inl (l7), .inl (l3), .inl ((nI 0))] dX1_hand_113 cb_X1_reorder cvRX1_138 rc_0 (show (10 : Nat) ≠ 0 by decide) rfl (Nat.le_of_ble_eq_true rfl) ⟨by decide, by decide⟩ (Nat.le_of_ble_eq_true rfl) rfl (tX1_reorder t l7 l3 (nI 0) M3) rfl (fun M4 => ?_)
      exact J_sub [0, 1, 2, 3, 9] (tX1_hand_116 t l1 l2 l3 l10 M4) rfl
  · refine K_aload_n (q := 67) 0 dX1_hand_66 rfl rfl rfl ?_
    refine K_getR (q := 70) (ci := 0) (a2 := t + 1) 1 dX1_hand_67 fRX1_11 rfl rfl (by decide) rfl rfl ?_
    refine K_iload (q := 72) 7 dX1_hand_70 rfl rfl ?_
    refine K_iload (q := 74) 5 dX1_hand_72 rfl rfl ?_
    refine K_if_eq (q := 77) (tgt := 85) dX1_hand_74 rfl ?_ rfl ?_
    · refine K_iload (q := 87) 8 dX1_hand_85 rfl rfl ?_
      exact J_sub [0, 1, 2, 3, 4, 9] (tX1_hand_87 t l1 l2 l3 l4 l10 l8 l9 M1) rfl
    · refine K_iload (q := 79) 8 dX1_hand_77 rfl rfl ?_
      refine K_bipush (q := 81) (v := -17) dX1_hand_79 rfl rfl ?_
      refine K_iand (q := 82) dX1_hand_81 rfl ?_
      refine J_goto (tgt := 87) dX1_hand_82 rfl ?_
      exact J_sub [0, 1, 2, 3, 4, 9] (tX1_hand_87 t l1 l2 l3 l4 l10 l8 (l9 &&& (-17 : Int32)) M1) rfl
def xX1_hand_37  (t : Nat) (l1 : Int32) (l2 : Int32) (l3 : Int32) (l4 : Int32) (l5 : Int32) (l6 : Int32) (l7 : Int32) (l8 : Int32) (l9 : Int32) (l10 : Int32) (M : j_M) : Option (j_M) := (if l6 = (0 : Int32) then xX1_hand_56 t l1 l2 l3 l4 l5 l7 l8 l9 l10 M else obi (xX3_data l9 M) fun v2 M1 => xX1_hand_56 t l1 l2 l3 l4 l5 l7 l8 l9 (l10 ||| ((v2 + (nI 1)) <<< ((nI 5) &&& 31))) M1)
set_option maxRecDepth 20000 in
set_option maxHeartbeats 2000000 in
theorem tX1_hand_37  (t : Nat)  (l1 : Int32) (l2 : Int32) (l3 : Int32) (l4 : Int32) (l5 : Int32) (l6 : Int32) (l7 : Int32) (l8 : Int32) (l9 : Int32) (l10 : Int32) (M : j_M) : J (ρ := j_M) yX1_hand cX1_hand 11 none 1 29 j_ev 37 [(0, .inr (10, 0, t)), (1, .inl (l1)), (2, .inl (l2)), (3, .inl (l3)), (4, .inl (l4)), (5, .inl (l5)), (6, .inl (l6)), (7, .inl (l7)), (8, .inl (l8)), (9, .inl (l9)), (10, .inl (l10))] [] M (xX1_hand_37 t l1 l2 l3 l4 l5 l6 l7 l8 l9 l10 M) := by
  unfold xX1_hand_37
  refine K_iload (q := 39) 6 dX1_hand_37 rfl rfl ?_
  refine K_if_eq (q := 42) (tgt := 56) dX1_hand_39 rfl ?_ rfl ?_
  · exact J_sub [0, 1, 2, 3, 4, 5, 7, 8, 9, 10] (tX1_hand_56 t l1 l2 l3 l4 l5 l7 l8 l9 l10 M) rfl
  · refine K_iload (q := 44) 10 dX1_hand_42 rfl rfl ?_
    refine K_iload (q := 46) 9 dX1_hand_44 rfl rfl ?_
    refine K_csi (q := 49) [.inl (l9)] dX1_hand_46 cb_X3_data cvRX1_127 rfl (Nat.le_of_ble_eq_true rfl) ⟨by decide, by decide⟩ (Nat.le_of_ble_eq_true rfl) rfl (tX3_data l9 M) rfl (fun v2 M1 => ?_)
    refine K_iconst (q := 50) (v := nI 1) dX1_hand_49 rfl rfl ?_
    refine K_iadd (q := 51) dX1_hand_50 rfl ?_
    refine K_iconst (q := 52) (v := nI 5) dX1_hand_51 rfl rfl ?_
    refine K_ishl (q := 53) dX1_hand_52 rfl ?_
    refine K_ior (q := 54) dX1_hand_53 rfl ?_
    refine K_istore (q := 56) (ll' := [(10, .inl (l10 ||| ((v2 + (nI 1)) <<< ((nI 5) &&& 31)))), (0, .inr (10, 0, t)), (1, .inl (l1)), (2, .inl (l2)), (3, .inl (l3)), (4, .inl (l4)), (5, .inl (l5)), (6, .inl (l6)), (7, .inl (l7)), (8, .inl (l8)), (9, .inl (l9))]) dX1_hand_54 (by decide) rfl rfl ?_
    exact J_sub [1, 2, 3, 4, 5, 6, 8, 9, 10, 0] (tX1_hand_56 t l1 l2 l3 l4 l5 l7 l8 l9 (l10 ||| ((v2 + (nI 1)) <<< ((nI 5) &&& 31))) M1) rfl
def xX1_hand (t : Nat) (l1 : Int32) (l2 : Int32) (l3 : Int32) (l4 : Int32) (l5 : Int32) (l6 : Int32) (M : j_M) : Option (j_M) := obi (xX1_blockOf l1 M) fun v2 M1 => gd (v2 + l3) 112 (oli (M1 (t + 1) (ix (v2 + l3))) fun v3 => (if l5 = (0 : Int32) then xX1_hand_37 t l1 l2 l3 l4 l5 l6 v2 (v2 + l3) v3 l4 M1 else xX1_hand_37 t l1 l2 l3 l4 l5 l6 v2 (v2 + l3) v3 (l4 ||| (nI 16)) M1))
set_option maxRecDepth 20000 in
set_option maxHeartbeats 2000000 in
theorem tX1_hand (t : Nat) (l1 : Int32) (l2 : Int32) (l3 : Int32) (l4 : Int32) (l5 : Int32) (l6 : Int32) (M : j_M) : J (ρ := j_M) yX1_hand cX1_hand 11 none 1 29 j_ev 0 [(0, .inr (10, 0, t)), (1, .inl (l1)), (2, .inl (l2)), (3, .inl (l3)), (4, .inl (l4)), (5, .inl (l5)), (6, .inl (l6))] [] M (xX1_hand t l1 l2 l3 l4 l5 l6 M) := by
  unfold xX1_hand
  refine K_iload_n (q := 1) 1 dX1_hand_0 rfl rfl rfl ?_
  refine K_csi (q := 4) [.inl (l1)] dX1_hand_1 cb_X1_blockOf cvRX1_73 rfl (Nat.le_of_ble_eq_true rfl) ⟨by decide, by decide⟩ (Nat.le_of_ble_eq_true rfl) rfl (tX1_blockOf l1 M) rfl (fun v2 M1 => ?_)
  refine K_istore (q := 6) (ll' := [(7, .inl (v2)), (0, .inr (10, 0, t)), (1, .inl (l1)), (2, .inl (l2)), (3, .inl (l3)), (4, .inl (l4)), (5, .inl (l5)), (6, .inl (l6))]) dX1_hand_4 (by decide) rfl rfl ?_
  refine K_iload (q := 8) 0 dX1_hand_6 rfl rfl ?_
  refine K_iload_n (q := 9) 4 dX1_hand_8 rfl rfl rfl ?_
  refine K_iadd (q := 10) dX1_hand_9 rfl ?_
  refine K_istore (q := 12) (ll' := [(8, .inl (v2 + l3)), (7, .inl (v2)), (0, .inr (10, 0, t)), (1, .inl (l1)), (2, .inl (l2)), (3, .inl (l3)), (4, .inl (l4)), (5, .inl (l5)), (6, .inl (l6))]) dX1_hand_10 (by decide) rfl rfl ?_
  refine K_aload_n (q := 13) 2 dX1_hand_12 rfl rfl rfl ?_
  refine K_getR (q := 16) (ci := 0) (a2 := t + 1) 1 dX1_hand_13 fRX1_11 rfl rfl (by decide) rfl rfl ?_
  refine K_iload (q := 18) 0 dX1_hand_16 rfl rfl ?_
  refine K_iald (q := 19) dX1_hand_18 rfl (fun v3 => ?_)
  refine K_istore (q := 21) (ll' := [(9, .inl (v3)), (8, .inl (v2 + l3)), (7, .inl (v2)), (0, .inr (10, 0, t)), (1, .inl (l1)), (2, .inl (l2)), (3, .inl (l3)), (4, .inl (l4)), (5, .inl (l5)), (6, .inl (l6))]) dX1_hand_19 (by decide) rfl rfl ?_
  refine K_iload (q := 23) 7 dX1_hand_21 rfl rfl ?_
  refine K_istore (q := 25) (ll' := [(10, .inl (l4)), (9, .inl (v3)), (8, .inl (v2 + l3)), (7, .inl (v2)), (0, .inr (10, 0, t)), (1, .inl (l1)), (2, .inl (l2)), (3, .inl (l3)), (4, .inl (l4)), (5, .inl (l5)), (6, .inl (l6))]) dX1_hand_23 (by decide) rfl rfl ?_
  refine K_iload (q := 27) 9 dX1_hand_25 rfl rfl ?_
  refine K_if_eq (q := 30) (tgt := 37) dX1_hand_27 rfl ?_ rfl ?_
  · exact J_sub [4, 5, 6, 7, 8, 9, 10, 3, 2, 1, 0] (tX1_hand_37 t l1 l2 l3 l4 l5 l6 v2 (v2 + l3) v3 l4 M1) rfl
  · refine K_iload (q := 32) 0 dX1_hand_30 rfl rfl ?_
    refine K_bipush (q := 34) (v := nI 16) dX1_hand_32 rfl rfl ?_
    refine K_ior (q := 35) dX1_hand_34 rfl ?_
    refine K_istore (q := 37) (ll' := [(10, .inl (l4 ||| (nI 16))), (9, .inl (v3)), (8, .inl (v2 + l3)), (7, .inl (v2)), (0, .inr (10, 0, t)), (1, .inl (l1)), (2, .inl (l2)), (3, .inl (l3)), (4, .inl (l4)), (5, .inl (l5)), (6, .inl (l6))]) dX1_hand_35 (by decide) rfl rfl ?_
    exact J_sub [4, 5, 6, 7, 8, 9, 10, 3, 2, 1, 0] (tX1_hand_37 t l1 l2 l3 l4 l5 l6 v2 (v2 + l3) v3 (l4 ||| (nI 16)) M1) rfl
theorem dX1_heldAt_0 : decode cX1_heldAt 0 = .ok (.aload_n 0, 1) := by decide +kernel
theorem dX1_heldAt_1 : decode cX1_heldAt 1 = .ok (.getfield 11, 3) := by decide +kernel
theorem dX1_heldAt_4 : decode cX1_heldAt 4 = .ok (.iload_n 1, 1) := by decide +kernel
theorem dX1_heldAt_5 : decode cX1_heldAt 5 = .ok (.invokestatic 73, 3) := by decide +kernel
theorem dX1_heldAt_8 : decode cX1_heldAt 8 = .ok (.iload_n 2, 1) := by decide +kernel
theorem dX1_heldAt_9 : decode cX1_heldAt 9 = .ok (.iadd, 1) := by decide +kernel
theorem dX1_heldAt_10 : decode cX1_heldAt 10 = .ok (.iaload, 1) := by decide +kernel
theorem dX1_heldAt_11 : decode cX1_heldAt 11 = .ok (.ireturn, 1) := by decide +kernel
def xX1_heldAt (t : Nat) (l1 : Int32) (l2 : Int32) (M : j_M) : Option (Int32 × j_M) := obi (xX1_blockOf l1 M) fun v2 M1 => gd (v2 + l2) 112 (oli (M1 (t + 1) (ix (v2 + l2))) fun v3 => some (v3, M1))
set_option maxRecDepth 20000 in
set_option maxHeartbeats 2000000 in
theorem tX1_heldAt (t : Nat) (l1 : Int32) (l2 : Int32) (M : j_M) : J (ρ := Int32 × j_M) yX1_heldAt cX1_heldAt 3 (some .int) 1 20 j_ei 0 [(0, .inr (10, 0, t)), (1, .inl (l1)), (2, .inl (l2))] [] M (xX1_heldAt t l1 l2 M) := by
  unfold xX1_heldAt
  refine K_aload_n (q := 1) 0 dX1_heldAt_0 rfl rfl rfl ?_
  refine K_getR (q := 4) (ci := 0) (a2 := t + 1) 1 dX1_heldAt_1 fRX1_11 rfl rfl (by decide) rfl rfl ?_
  refine K_iload_n (q := 5) 1 dX1_heldAt_4 rfl rfl rfl ?_
  refine K_csi (q := 8) [.inl (l1)] dX1_heldAt_5 cb_X1_blockOf cvRX1_73 rfl (Nat.le_of_ble_eq_true rfl) ⟨by decide, by decide⟩ (Nat.le_of_ble_eq_true rfl) rfl (tX1_blockOf l1 M) rfl (fun v2 M1 => ?_)
  refine K_iload_n (q := 9) 2 dX1_heldAt_8 rfl rfl rfl ?_
  refine K_iadd (q := 10) dX1_heldAt_9 rfl ?_
  refine K_iald (q := 11) dX1_heldAt_10 rfl (fun v3 => ?_)
  exact J_iret dX1_heldAt_11
theorem dX1_remember_0 : decode cX1_remember 0 = .ok (.iload_n 1, 1) := by decide +kernel
theorem dX1_remember_1 : decode cX1_remember 1 = .ok (.bipush 6, 2) := by decide +kernel
theorem dX1_remember_3 : decode cX1_remember 3 = .ok (.if_icmp .ne 4, 3) := by decide +kernel
theorem dX1_remember_6 : decode cX1_remember 6 = .ok (.return_, 1) := by decide +kernel
theorem dX1_remember_7 : decode cX1_remember 7 = .ok (.iload_n 1, 1) := by decide +kernel
theorem dX1_remember_8 : decode cX1_remember 8 = .ok (.bipush 8, 2) := by decide +kernel
theorem dX1_remember_10 : decode cX1_remember 10 = .ok (.imul, 1) := by decide +kernel
theorem dX1_remember_11 : decode cX1_remember 11 = .ok (.iload_n 3, 1) := by decide +kernel
theorem dX1_remember_12 : decode cX1_remember 12 = .ok (.iadd, 1) := by decide +kernel
theorem dX1_remember_13 : decode cX1_remember 13 = .ok (.istore 5, 2) := by decide +kernel
theorem dX1_remember_15 : decode cX1_remember 15 = .ok (.iload_n 2, 1) := by decide +kernel
theorem dX1_remember_16 : decode cX1_remember 16 = .ok (.bipush 6, 2) := by decide +kernel
theorem dX1_remember_18 : decode cX1_remember 18 = .ok (.if_icmp .eq 16, 3) := by decide +kernel
theorem dX1_remember_21 : decode cX1_remember 21 = .ok (.aload_n 0, 1) := by decide +kernel
theorem dX1_remember_22 : decode cX1_remember 22 = .ok (.getfield 21, 3) := by decide +kernel
theorem dX1_remember_25 : decode cX1_remember 25 = .ok (.iload 5, 2) := by decide +kernel
theorem dX1_remember_27 : decode cX1_remember 27 = .ok (.dup2, 1) := by decide +kernel
theorem dX1_remember_28 : decode cX1_remember 28 = .ok (.iaload, 1) := by decide +kernel
theorem dX1_remember_29 : decode cX1_remember 29 = .ok (.iconst 1, 1) := by decide +kernel
theorem dX1_remember_30 : decode cX1_remember 30 = .ok (.iload_n 2, 1) := by decide +kernel
theorem dX1_remember_31 : decode cX1_remember 31 = .ok (.ishl, 1) := by decide +kernel
theorem dX1_remember_32 : decode cX1_remember 32 = .ok (.ior, 1) := by decide +kernel
theorem dX1_remember_33 : decode cX1_remember 33 = .ok (.iastore, 1) := by decide +kernel
theorem dX1_remember_34 : decode cX1_remember 34 = .ok (.iload 4, 2) := by decide +kernel
theorem dX1_remember_36 : decode cX1_remember 36 = .ok (.ifCond .eq 21, 3) := by decide +kernel
theorem dX1_remember_39 : decode cX1_remember 39 = .ok (.aload_n 0, 1) := by decide +kernel
theorem dX1_remember_40 : decode cX1_remember 40 = .ok (.getfield 18, 3) := by decide +kernel
theorem dX1_remember_43 : decode cX1_remember 43 = .ok (.iload 5, 2) := by decide +kernel
theorem dX1_remember_45 : decode cX1_remember 45 = .ok (.iload_n 2, 1) := by decide +kernel
theorem dX1_remember_46 : decode cX1_remember 46 = .ok (.bipush 6, 2) := by decide +kernel
theorem dX1_remember_48 : decode cX1_remember 48 = .ok (.if_icmp .ne 7, 3) := by decide +kernel
theorem dX1_remember_51 : decode cX1_remember 51 = .ok (.iconst (-1), 1) := by decide +kernel
theorem dX1_remember_52 : decode cX1_remember 52 = .ok (.goto 4, 3) := by decide +kernel
theorem dX1_remember_55 : decode cX1_remember 55 = .ok (.iload_n 2, 1) := by decide +kernel
theorem dX1_remember_56 : decode cX1_remember 56 = .ok (.iastore, 1) := by decide +kernel
theorem dX1_remember_57 : decode cX1_remember 57 = .ok (.return_, 1) := by decide +kernel
def xX1_remember_56  (t : Nat) (s1 : Int32) (s0 : Int32) (M : j_M) : Option (j_M) := gd s1 48 (oml (mw M (t + 3) (ix s1) s0) fun M1 => some M1)
set_option maxRecDepth 20000 in
set_option maxHeartbeats 2000000 in
theorem tX1_remember_56  (t : Nat)  (s1 : Int32) (s0 : Int32) (M : j_M) : J (ρ := j_M) yX1_remember cX1_remember 6 none 0 0 j_ev 56 [] [.inl (s0), .inl (s1), .inr (1, 48, t + 3)] M (xX1_remember_56 t s1 s0 M) := by
  unfold xX1_remember_56
  refine K_iast (q := 57) dX1_remember_56 rfl (fun M1 => ?_)
  exact J_vret dX1_remember_57
def xX1_remember_34  (t : Nat) (l2 : Int32) (l4 : Int32) (l5 : Int32) (M : j_M) : Option (j_M) := (if l4 = (0 : Int32) then some M else (if l2 = (nI 6) then xX1_remember_56 t l5 (-1 : Int32) M else xX1_remember_56 t l5 l2 M))
set_option maxRecDepth 20000 in
set_option maxHeartbeats 2000000 in
theorem tX1_remember_34  (t : Nat)  (l2 : Int32) (l4 : Int32) (l5 : Int32) (M : j_M) : J (ρ := j_M) yX1_remember cX1_remember 6 none 0 0 j_ev 34 [(0, .inr (10, 0, t)), (2, .inl (l2)), (4, .inl (l4)), (5, .inl (l5))] [] M (xX1_remember_34 t l2 l4 l5 M) := by
  unfold xX1_remember_34
  refine K_iload (q := 36) 2 dX1_remember_34 rfl rfl ?_
  refine K_if_eq (q := 39) (tgt := 57) dX1_remember_36 rfl ?_ rfl ?_
  · exact J_vret dX1_remember_57
  · refine K_aload_n (q := 40) 0 dX1_remember_39 rfl rfl rfl ?_
    refine K_getR (q := 43) (ci := 0) (a2 := t + 3) 3 dX1_remember_40 fRX1_18 rfl rfl (by decide) rfl rfl ?_
    refine K_iload (q := 45) 3 dX1_remember_43 rfl rfl ?_
    refine K_iload_n (q := 46) 1 dX1_remember_45 rfl rfl rfl ?_
    refine K_bipush (q := 48) (v := nI 6) dX1_remember_46 rfl rfl ?_
    refine K_icmp_ne (q := 51) (tgt := 55) dX1_remember_48 rfl ?_ rfl ?_
    · refine K_iload_n (q := 56) 1 dX1_remember_55 rfl rfl rfl ?_
      exact J_sub [] (tX1_remember_56 t l5 l2 M) rfl
    · refine K_iconst (q := 52) (v := -1) dX1_remember_51 rfl rfl ?_
      refine J_goto (tgt := 56) dX1_remember_52 rfl ?_
      exact J_sub [] (tX1_remember_56 t l5 (-1 : Int32) M) rfl
def xX1_remember (t : Nat) (l1 : Int32) (l2 : Int32) (l3 : Int32) (l4 : Int32) (M : j_M) : Option (j_M) := (if l1 = (nI 6) then some M else (if l2 = (nI 6) then xX1_remember_34 t l2 l4 ((l1 * (nI 8)) + l3) M else gd ((l1 * (nI 8)) + l3) 48 (oli (M (t + 4) (ix ((l1 * (nI 8)) + l3))) fun v1 => gd ((l1 * (nI 8)) + l3) 48 (oml (mw M (t + 4) (ix ((l1 * (nI 8)) + l3)) (v1 ||| ((nI 1) <<< (l2 &&& 31)))) fun M2 => xX1_remember_34 t l2 l4 ((l1 * (nI 8)) + l3) M2))))
set_option maxRecDepth 20000 in
set_option maxHeartbeats 2000000 in
theorem tX1_remember (t : Nat) (l1 : Int32) (l2 : Int32) (l3 : Int32) (l4 : Int32) (M : j_M) : J (ρ := j_M) yX1_remember cX1_remember 6 none 0 0 j_ev 0 [(0, .inr (10, 0, t)), (1, .inl (l1)), (2, .inl (l2)), (3, .inl (l3)), (4, .inl (l4))] [] M (xX1_remember t l1 l2 l3 l4 M) := by
  unfold xX1_remember
  refine K_iload_n (q := 1) 1 dX1_remember_0 rfl rfl rfl ?_
  refine K_bipush (q := 3) (v := nI 6) dX1_remember_1 rfl rfl ?_
  refine K_icmp_ne (q := 6) (tgt := 7) dX1_remember_3 rfl ?_ rfl ?_
  · refine K_iload_n (q := 8) 1 dX1_remember_7 rfl rfl rfl ?_
    refine K_bipush (q := 10) (v := nI 8) dX1_remember_8 rfl rfl ?_
    refine K_imul (q := 11) dX1_remember_10 rfl ?_
    refine K_iload_n (q := 12) 3 dX1_remember_11 rfl rfl rfl ?_
    refine K_iadd (q := 13) dX1_remember_12 rfl ?_
    refine K_istore (q := 15) (ll' := [(5, .inl ((l1 * (nI 8)) + l3)), (0, .inr (10, 0, t)), (1, .inl (l1)), (2, .inl (l2)), (3, .inl (l3)), (4, .inl (l4))]) dX1_remember_13 (by decide) rfl rfl ?_
    refine K_iload_n (q := 16) 3 dX1_remember_15 rfl rfl rfl ?_
    refine K_bipush (q := 18) (v := nI 6) dX1_remember_16 rfl rfl ?_
    refine K_icmp_eq (q := 21) (tgt := 34) dX1_remember_18 rfl ?_ rfl ?_
    · exact J_sub [1, 3, 5, 0] (tX1_remember_34 t l2 l4 ((l1 * (nI 8)) + l3) M) rfl
    · refine K_aload_n (q := 22) 1 dX1_remember_21 rfl rfl rfl ?_
      refine K_getR (q := 25) (ci := 0) (a2 := t + 4) 4 dX1_remember_22 fRX1_21 rfl rfl (by decide) rfl rfl ?_
      refine K_iload (q := 27) 0 dX1_remember_25 rfl rfl ?_
      refine K_dup2 (q := 28) dX1_remember_27 rfl ?_
      refine K_iald (q := 29) dX1_remember_28 rfl (fun v1 => ?_)
      refine K_iconst (q := 30) (v := nI 1) dX1_remember_29 rfl rfl ?_
      refine K_iload_n (q := 31) 3 dX1_remember_30 rfl rfl rfl ?_
      refine K_ishl (q := 32) dX1_remember_31 rfl ?_
      refine K_ior (q := 33) dX1_remember_32 rfl ?_
      refine K_iast (q := 34) dX1_remember_33 rfl (fun M2 => ?_)
      exact J_sub [1, 3, 5, 0] (tX1_remember_34 t l2 l4 ((l1 * (nI 8)) + l3) M2) rfl
  · exact J_vret dX1_remember_6
theorem dX1_turnAt_0 : decode cX1_turnAt 0 = .ok (.iload_n 1, 1) := by decide +kernel
theorem dX1_turnAt_1 : decode cX1_turnAt 1 = .ok (.invokestatic 73, 3) := by decide +kernel
theorem dX1_turnAt_4 : decode cX1_turnAt 4 = .ok (.bipush 8, 2) := by decide +kernel
theorem dX1_turnAt_6 : decode cX1_turnAt 6 = .ok (.iadd, 1) := by decide +kernel
theorem dX1_turnAt_7 : decode cX1_turnAt 7 = .ok (.istore_n 3, 1) := by decide +kernel
theorem dX1_turnAt_8 : decode cX1_turnAt 8 = .ok (.iconst 0, 1) := by decide +kernel
theorem dX1_turnAt_9 : decode cX1_turnAt 9 = .ok (.istore 4, 2) := by decide +kernel
theorem dX1_turnAt_11 : decode cX1_turnAt 11 = .ok (.iload 4, 2) := by decide +kernel
theorem dX1_turnAt_13 : decode cX1_turnAt 13 = .ok (.aload_n 0, 1) := by decide +kernel
theorem dX1_turnAt_14 : decode cX1_turnAt 14 = .ok (.getfield 33, 3) := by decide +kernel
theorem dX1_turnAt_17 : decode cX1_turnAt 17 = .ok (.if_icmp .ge 28, 3) := by decide +kernel
theorem dX1_turnAt_20 : decode cX1_turnAt 20 = .ok (.aload_n 0, 1) := by decide +kernel
theorem dX1_turnAt_21 : decode cX1_turnAt 21 = .ok (.getfield 11, 3) := by decide +kernel
theorem dX1_turnAt_24 : decode cX1_turnAt 24 = .ok (.iload_n 3, 1) := by decide +kernel
theorem dX1_turnAt_25 : decode cX1_turnAt 25 = .ok (.iload 4, 2) := by decide +kernel
theorem dX1_turnAt_27 : decode cX1_turnAt 27 = .ok (.iadd, 1) := by decide +kernel
theorem dX1_turnAt_28 : decode cX1_turnAt 28 = .ok (.iaload, 1) := by decide +kernel
theorem dX1_turnAt_29 : decode cX1_turnAt 29 = .ok (.iload_n 2, 1) := by decide +kernel
theorem dX1_turnAt_30 : decode cX1_turnAt 30 = .ok (.invokestatic 259, 3) := by decide +kernel
theorem dX1_turnAt_33 : decode cX1_turnAt 33 = .ok (.ifCond .eq 6, 3) := by decide +kernel
theorem dX1_turnAt_36 : decode cX1_turnAt 36 = .ok (.iload 4, 2) := by decide +kernel
theorem dX1_turnAt_38 : decode cX1_turnAt 38 = .ok (.ireturn, 1) := by decide +kernel
theorem dX1_turnAt_39 : decode cX1_turnAt 39 = .ok (.iinc 4 1, 3) := by decide +kernel
theorem dX1_turnAt_42 : decode cX1_turnAt 42 = .ok (.goto (-31), 3) := by decide +kernel
theorem dX1_turnAt_45 : decode cX1_turnAt 45 = .ok (.iconst (-1), 1) := by decide +kernel
theorem dX1_turnAt_46 : decode cX1_turnAt 46 = .ok (.ireturn, 1) := by decide +kernel
def xX1_turnAt_11  (t : Nat) : Nat → Int32 → Int32 → Int32 → j_M → Option (Int32 × j_M)
  | 0, _, _, _, _ => none
  | n + 1, l2, l3, l4, M => oli (M t 9) fun v1 => (if v1 ≤ l4 then some ((-1 : Int32), M) else gd (l3 + l4) 112 (oli (M (t + 1) (ix (l3 + l4))) fun v2 => obi (xX2_isActiveFor v2 l2 M) fun v4 M3 => (if v4 = (0 : Int32) then xX1_turnAt_11 t n l2 l3 (l4 + (nI 1)) M3 else some (l4, M3))))
set_option maxRecDepth 20000 in
set_option maxHeartbeats 2000000 in
theorem tX1_turnAt_11  (t : Nat)  : ∀ (n : Nat) (l2 : Int32) (l3 : Int32) (l4 : Int32) (M : j_M), J (ρ := Int32 × j_M) yX1_turnAt cX1_turnAt 5 (some .int) 1 21 j_ei 11 [(0, .inr (10, 0, t)), (2, .inl (l2)), (3, .inl (l3)), (4, .inl (l4))] [] M (xX1_turnAt_11 t n l2 l3 l4 M) := by
  intro n
  induction n with
  | zero => intros; exact J_none
  | succ n ih =>
    intro l2 l3 l4 M
    rw [xX1_turnAt_11.eq_2]
    refine K_iload (q := 13) 3 dX1_turnAt_11 rfl rfl ?_
    refine K_aload_n (q := 14) 0 dX1_turnAt_13 rfl rfl rfl ?_
    refine K_getI (q := 17) (ci := 0) 9 dX1_turnAt_14 fRX1_33 rfl rfl rfl (fun v1 => ?_)
    refine K_icmp_ge (q := 20) (tgt := 45) dX1_turnAt_17 rfl ?_ rfl ?_
    · refine K_iconst (q := 46) (v := -1) dX1_turnAt_45 rfl rfl ?_
      exact J_iret dX1_turnAt_46
    · refine K_aload_n (q := 21) 0 dX1_turnAt_20 rfl rfl rfl ?_
      refine K_getR (q := 24) (ci := 0) (a2 := t + 1) 1 dX1_turnAt_21 fRX1_11 rfl rfl (by decide) rfl rfl ?_
      refine K_iload_n (q := 25) 2 dX1_turnAt_24 rfl rfl rfl ?_
      refine K_iload (q := 27) 3 dX1_turnAt_25 rfl rfl ?_
      refine K_iadd (q := 28) dX1_turnAt_27 rfl ?_
      refine K_iald (q := 29) dX1_turnAt_28 rfl (fun v2 => ?_)
      refine K_iload_n (q := 30) 1 dX1_turnAt_29 rfl rfl rfl ?_
      refine K_csi (q := 33) [.inl (v2), .inl (l2)] dX1_turnAt_30 cb_X2_isActiveFor cvRX1_259 rfl (Nat.le_of_ble_eq_true rfl) ⟨by decide, by decide⟩ (Nat.le_of_ble_eq_true rfl) rfl (tX2_isActiveFor v2 l2 M) rfl (fun v4 M3 => ?_)
      refine K_if_eq (q := 36) (tgt := 39) dX1_turnAt_33 rfl ?_ rfl ?_
      · refine K_iinc (q := 42) (v := l4 + (nI 1)) (ll' := [(4, .inl (l4 + (nI 1))), (0, .inr (10, 0, t)), (2, .inl (l2)), (3, .inl (l3))]) 3 dX1_turnAt_39 rfl rfl (by decide) rfl rfl ?_
        refine J_goto (tgt := 11) dX1_turnAt_42 rfl ?_
        exact J_sub [1, 2, 3, 0] (ih l2 l3 (l4 + (nI 1)) M3) rfl
      · refine K_iload (q := 38) 3 dX1_turnAt_36 rfl rfl ?_
        exact J_iret dX1_turnAt_38
def xX1_turnAt (t : Nat) (l1 : Int32) (l2 : Int32) (M : j_M) : Option (Int32 × j_M) := obi (xX1_blockOf l1 M) fun v2 M1 => xX1_turnAt_11 t fu l2 (v2 + (nI 8)) (nI 0) M1
set_option maxRecDepth 20000 in
set_option maxHeartbeats 2000000 in
theorem tX1_turnAt (t : Nat) (l1 : Int32) (l2 : Int32) (M : j_M) : J (ρ := Int32 × j_M) yX1_turnAt cX1_turnAt 5 (some .int) 1 21 j_ei 0 [(0, .inr (10, 0, t)), (1, .inl (l1)), (2, .inl (l2))] [] M (xX1_turnAt t l1 l2 M) := by
  unfold xX1_turnAt
  refine K_iload_n (q := 1) 1 dX1_turnAt_0 rfl rfl rfl ?_
  refine K_csi (q := 4) [.inl (l1)] dX1_turnAt_1 cb_X1_blockOf cvRX1_73 rfl (Nat.le_of_ble_eq_true rfl) ⟨by decide, by decide⟩ (Nat.le_of_ble_eq_true rfl) rfl (tX1_blockOf l1 M) rfl (fun v2 M1 => ?_)
  refine K_bipush (q := 6) (v := nI 8) dX1_turnAt_4 rfl rfl ?_
  refine K_iadd (q := 7) dX1_turnAt_6 rfl ?_
  refine K_istore_n (q := 8) (ll' := [(3, .inl (v2 + (nI 8))), (0, .inr (10, 0, t)), (1, .inl (l1)), (2, .inl (l2))]) dX1_turnAt_7 rfl (by decide) rfl rfl ?_
  refine K_iconst (q := 9) (v := nI 0) dX1_turnAt_8 rfl rfl ?_
  refine K_istore (q := 11) (ll' := [(4, .inl ((nI 0))), (3, .inl (v2 + (nI 8))), (0, .inr (10, 0, t)), (1, .inl (l1)), (2, .inl (l2))]) dX1_turnAt_9 (by decide) rfl rfl ?_
  exact J_sub [2, 4, 1, 0] (tX1_turnAt_11 t fu l2 (v2 + (nI 8)) (nI 0) M1) rfl
theorem dX1_entryAt_0 : decode cX1_entryAt 0 = .ok (.aload_n 0, 1) := by decide +kernel
theorem dX1_entryAt_1 : decode cX1_entryAt 1 = .ok (.getfield 11, 3) := by decide +kernel
theorem dX1_entryAt_4 : decode cX1_entryAt 4 = .ok (.iload_n 1, 1) := by decide +kernel
theorem dX1_entryAt_5 : decode cX1_entryAt 5 = .ok (.invokestatic 73, 3) := by decide +kernel
theorem dX1_entryAt_8 : decode cX1_entryAt 8 = .ok (.bipush 8, 2) := by decide +kernel
theorem dX1_entryAt_10 : decode cX1_entryAt 10 = .ok (.iadd, 1) := by decide +kernel
theorem dX1_entryAt_11 : decode cX1_entryAt 11 = .ok (.iload_n 2, 1) := by decide +kernel
theorem dX1_entryAt_12 : decode cX1_entryAt 12 = .ok (.iadd, 1) := by decide +kernel
theorem dX1_entryAt_13 : decode cX1_entryAt 13 = .ok (.iaload, 1) := by decide +kernel
theorem dX1_entryAt_14 : decode cX1_entryAt 14 = .ok (.ireturn, 1) := by decide +kernel
def xX1_entryAt (t : Nat) (l1 : Int32) (l2 : Int32) (M : j_M) : Option (Int32 × j_M) := obi (xX1_blockOf l1 M) fun v2 M1 => gd ((v2 + (nI 8)) + l2) 112 (oli (M1 (t + 1) (ix ((v2 + (nI 8)) + l2))) fun v3 => some (v3, M1))
set_option maxRecDepth 20000 in
set_option maxHeartbeats 2000000 in
theorem tX1_entryAt (t : Nat) (l1 : Int32) (l2 : Int32) (M : j_M) : J (ρ := Int32 × j_M) yX1_entryAt cX1_entryAt 3 (some .int) 1 20 j_ei 0 [(0, .inr (10, 0, t)), (1, .inl (l1)), (2, .inl (l2))] [] M (xX1_entryAt t l1 l2 M) := by
  unfold xX1_entryAt
  refine K_aload_n (q := 1) 0 dX1_entryAt_0 rfl rfl rfl ?_
  refine K_getR (q := 4) (ci := 0) (a2 := t + 1) 1 dX1_entryAt_1 fRX1_11 rfl rfl (by decide) rfl rfl ?_
  refine K_iload_n (q := 5) 1 dX1_entryAt_4 rfl rfl rfl ?_
  refine K_csi (q := 8) [.inl (l1)] dX1_entryAt_5 cb_X1_blockOf cvRX1_73 rfl (Nat.le_of_ble_eq_true rfl) ⟨by decide, by decide⟩ (Nat.le_of_ble_eq_true rfl) rfl (tX1_blockOf l1 M) rfl (fun v2 M1 => ?_)
  refine K_bipush (q := 10) (v := nI 8) dX1_entryAt_8 rfl rfl ?_
  refine K_iadd (q := 11) dX1_entryAt_10 rfl ?_
  refine K_iload_n (q := 12) 2 dX1_entryAt_11 rfl rfl rfl ?_
  refine K_iadd (q := 13) dX1_entryAt_12 rfl ?_
  refine K_iald (q := 14) dX1_entryAt_13 rfl (fun v3 => ?_)
  exact J_iret dX1_entryAt_14
theorem dX1_settle_0 : decode cX1_settle 0 = .ok (.aload_n 0, 1) := by decide +kernel
theorem dX1_settle_1 : decode cX1_settle 1 = .ok (.iload_n 1, 1) := by decide +kernel
theorem dX1_settle_2 : decode cX1_settle 2 = .ok (.iload_n 2, 1) := by decide +kernel
theorem dX1_settle_3 : decode cX1_settle 3 = .ok (.invokevirtual 224, 3) := by decide +kernel
theorem dX1_settle_6 : decode cX1_settle 6 = .ok (.istore_n 3, 1) := by decide +kernel
theorem dX1_settle_7 : decode cX1_settle 7 = .ok (.aload_n 0, 1) := by decide +kernel
theorem dX1_settle_8 : decode cX1_settle 8 = .ok (.iload_n 1, 1) := by decide +kernel
theorem dX1_settle_9 : decode cX1_settle 9 = .ok (.iload_n 2, 1) := by decide +kernel
theorem dX1_settle_10 : decode cX1_settle 10 = .ok (.invokevirtual 176, 3) := by decide +kernel
theorem dX1_settle_13 : decode cX1_settle 13 = .ok (.istore 4, 2) := by decide +kernel
theorem dX1_settle_15 : decode cX1_settle 15 = .ok (.iload 4, 2) := by decide +kernel
theorem dX1_settle_17 : decode cX1_settle 17 = .ok (.invokestatic 82, 3) := by decide +kernel
theorem dX1_settle_20 : decode cX1_settle 20 = .ok (.istore 5, 2) := by decide +kernel
theorem dX1_settle_22 : decode cX1_settle 22 = .ok (.iload_n 3, 1) := by decide +kernel
theorem dX1_settle_23 : decode cX1_settle 23 = .ok (.iconst (-1), 1) := by decide +kernel
theorem dX1_settle_24 : decode cX1_settle 24 = .ok (.if_icmp .eq 13, 3) := by decide +kernel
theorem dX1_settle_27 : decode cX1_settle 27 = .ok (.iload_n 3, 1) := by decide +kernel
theorem dX1_settle_28 : decode cX1_settle 28 = .ok (.iload_n 1, 1) := by decide +kernel
theorem dX1_settle_29 : decode cX1_settle 29 = .ok (.if_icmp .eq 8, 3) := by decide +kernel
theorem dX1_settle_32 : decode cX1_settle 32 = .ok (.iload 5, 2) := by decide +kernel
theorem dX1_settle_34 : decode cX1_settle 34 = .ok (.ifCond .ne 4, 3) := by decide +kernel
theorem dX1_settle_37 : decode cX1_settle 37 = .ok (.return_, 1) := by decide +kernel
theorem dX1_settle_38 : decode cX1_settle 38 = .ok (.iload 4, 2) := by decide +kernel
theorem dX1_settle_40 : decode cX1_settle 40 = .ok (.invokestatic 182, 3) := by decide +kernel
theorem dX1_settle_43 : decode cX1_settle 43 = .ok (.istore 6, 2) := by decide +kernel
theorem dX1_settle_45 : decode cX1_settle 45 = .ok (.aload_n 0, 1) := by decide +kernel
theorem dX1_settle_46 : decode cX1_settle 46 = .ok (.iload_n 1, 1) := by decide +kernel
theorem dX1_settle_47 : decode cX1_settle 47 = .ok (.iload_n 3, 1) := by decide +kernel
theorem dX1_settle_48 : decode cX1_settle 48 = .ok (.invokevirtual 248, 3) := by decide +kernel
theorem dX1_settle_51 : decode cX1_settle 51 = .ok (.invokestatic 263, 3) := by decide +kernel
theorem dX1_settle_54 : decode cX1_settle 54 = .ok (.iconst 2, 1) := by decide +kernel
theorem dX1_settle_55 : decode cX1_settle 55 = .ok (.if_icmp .ne 19, 3) := by decide +kernel
theorem dX1_settle_58 : decode cX1_settle 58 = .ok (.aload_n 0, 1) := by decide +kernel
theorem dX1_settle_59 : decode cX1_settle 59 = .ok (.iload_n 1, 1) := by decide +kernel
theorem dX1_settle_60 : decode cX1_settle 60 = .ok (.iload_n 3, 1) := by decide +kernel
theorem dX1_settle_61 : decode cX1_settle 61 = .ok (.iload_n 2, 1) := by decide +kernel
theorem dX1_settle_62 : decode cX1_settle 62 = .ok (.iload 5, 2) := by decide +kernel
theorem dX1_settle_64 : decode cX1_settle 64 = .ok (.iload 6, 2) := by decide +kernel
theorem dX1_settle_66 : decode cX1_settle 66 = .ok (.iload 6, 2) := by decide +kernel
theorem dX1_settle_68 : decode cX1_settle 68 = .ok (.invokevirtual 188, 3) := by decide +kernel
theorem dX1_settle_71 : decode cX1_settle 71 = .ok (.goto 42, 3) := by decide +kernel
theorem dX1_settle_74 : decode cX1_settle 74 = .ok (.iload 5, 2) := by decide +kernel
theorem dX1_settle_76 : decode cX1_settle 76 = .ok (.iconst 1, 1) := by decide +kernel
theorem dX1_settle_77 : decode cX1_settle 77 = .ok (.if_icmp .le 21, 3) := by decide +kernel
theorem dX1_settle_80 : decode cX1_settle 80 = .ok (.aload_n 0, 1) := by decide +kernel
theorem dX1_settle_81 : decode cX1_settle 81 = .ok (.iload_n 1, 1) := by decide +kernel
theorem dX1_settle_82 : decode cX1_settle 82 = .ok (.iload_n 3, 1) := by decide +kernel
theorem dX1_settle_83 : decode cX1_settle 83 = .ok (.iload_n 2, 1) := by decide +kernel
theorem dX1_settle_84 : decode cX1_settle 84 = .ok (.iload 5, 2) := by decide +kernel
theorem dX1_settle_86 : decode cX1_settle 86 = .ok (.iconst 1, 1) := by decide +kernel
theorem dX1_settle_87 : decode cX1_settle 87 = .ok (.isub, 1) := by decide +kernel
theorem dX1_settle_88 : decode cX1_settle 88 = .ok (.iload 6, 2) := by decide +kernel
theorem dX1_settle_90 : decode cX1_settle 90 = .ok (.iload 6, 2) := by decide +kernel
theorem dX1_settle_92 : decode cX1_settle 92 = .ok (.invokevirtual 188, 3) := by decide +kernel
theorem dX1_settle_95 : decode cX1_settle 95 = .ok (.goto 18, 3) := by decide +kernel
theorem dX1_settle_98 : decode cX1_settle 98 = .ok (.iload 6, 2) := by decide +kernel
theorem dX1_settle_100 : decode cX1_settle 100 = .ok (.ifCond .eq 13, 3) := by decide +kernel
theorem dX1_settle_103 : decode cX1_settle 103 = .ok (.aload_n 0, 1) := by decide +kernel
theorem dX1_settle_104 : decode cX1_settle 104 = .ok (.iload_n 1, 1) := by decide +kernel
theorem dX1_settle_105 : decode cX1_settle 105 = .ok (.iload_n 3, 1) := by decide +kernel
theorem dX1_settle_106 : decode cX1_settle 106 = .ok (.iload_n 2, 1) := by decide +kernel
theorem dX1_settle_107 : decode cX1_settle 107 = .ok (.iconst 1, 1) := by decide +kernel
theorem dX1_settle_108 : decode cX1_settle 108 = .ok (.iconst 1, 1) := by decide +kernel
theorem dX1_settle_109 : decode cX1_settle 109 = .ok (.iconst 1, 1) := by decide +kernel
theorem dX1_settle_110 : decode cX1_settle 110 = .ok (.invokevirtual 188, 3) := by decide +kernel
theorem dX1_settle_113 : decode cX1_settle 113 = .ok (.return_, 1) := by decide +kernel
def xX1_settle (t : Nat) (l1 : Int32) (l2 : Int32) (M : j_M) : Option (j_M) := obi (xX1_turnAt t l1 l2 M) fun v2 M1 => obi (xX1_heldAt t l1 l2 M1) fun v4 M3 => obi (xX3_count v4 M3) fun v6 M5 => (if v2 = (-1 : Int32) then some M5 else (if v2 = l1 then some M5 else (if v6 = (0 : Int32) then some M5 else obi (xX3_isOwner v4 M5) fun v8 M7 => obi (xX1_entryAt t l1 v2 M7) fun v10 M9 => obi (xX2_what v10 M9) fun v12 M11 => (if v12 = (nI 2) then obv (xX1_hand t l1 v2 l2 v6 v8 v8 M11) fun M15 => some M15 else (if v6 ≤ (nI 1) then (if v8 = (0 : Int32) then some M11 else obv (xX1_hand t l1 v2 l2 (nI 1) (nI 1) (nI 1) M11) fun M13 => some M13) else obv (xX1_hand t l1 v2 l2 (v6 - (nI 1)) v8 v8 M11) fun M14 => some M14)))))
set_option maxRecDepth 20000 in
set_option maxHeartbeats 2000000 in
theorem tX1_settle (t : Nat) (l1 : Int32) (l2 : Int32) (M : j_M) : J (ρ := j_M) yX1_settle cX1_settle 7 none 2 59 j_ev 0 [(0, .inr (10, 0, t)), (1, .inl (l1)), (2, .inl (l2))] [] M (xX1_settle t l1 l2 M) := by
  unfold xX1_settle
  refine K_aload_n (q := 1) 0 dX1_settle_0 rfl rfl rfl ?_
  refine K_iload_n (q := 2) 1 dX1_settle_1 rfl rfl rfl ?_
  refine K_iload_n (q := 3) 2 dX1_settle_2 rfl rfl rfl ?_
  refine K_cvi (q := 6) [.inl (l1), .inl (l2)] dX1_settle_3 cb_X1_turnAt cvRX1_224 rc_0 (show (10 : Nat) ≠ 0 by decide) rfl (Nat.le_of_ble_eq_true rfl) ⟨by decide, by decide⟩ (Nat.le_of_ble_eq_true rfl) rfl (tX1_turnAt t l1 l2 M) rfl (fun v2 M1 => ?_)
  refine K_istore_n (q := 7) (ll' := [(3, .inl (v2)), (0, .inr (10, 0, t)), (1, .inl (l1)), (2, .inl (l2))]) dX1_settle_6 rfl (by decide) rfl rfl ?_
  refine K_aload_n (q := 8) 1 dX1_settle_7 rfl rfl rfl ?_
  refine K_iload_n (q := 9) 2 dX1_settle_8 rfl rfl rfl ?_
  refine K_iload_n (q := 10) 3 dX1_settle_9 rfl rfl rfl ?_
  refine K_cvi (q := 13) [.inl (l1), .inl (l2)] dX1_settle_10 cb_X1_heldAt cvRX1_176 rc_0 (show (10 : Nat) ≠ 0 by decide) rfl (Nat.le_of_ble_eq_true rfl) ⟨by decide, by decide⟩ (Nat.le_of_ble_eq_true rfl) rfl (tX1_heldAt t l1 l2 M1) rfl (fun v4 M3 => ?_)
  refine K_istore (q := 15) (ll' := [(4, .inl (v4)), (3, .inl (v2)), (0, .inr (10, 0, t)), (1, .inl (l1)), (2, .inl (l2))]) dX1_settle_13 (by decide) rfl rfl ?_
  refine K_iload (q := 17) 0 dX1_settle_15 rfl rfl ?_
  refine K_csi (q := 20) [.inl (v4)] dX1_settle_17 cb_X3_count cvRX1_82 rfl (Nat.le_of_ble_eq_true rfl) ⟨by decide, by decide⟩ (Nat.le_of_ble_eq_true rfl) rfl (tX3_count v4 M3) rfl (fun v6 M5 => ?_)
  refine K_istore (q := 22) (ll' := [(5, .inl (v6)), (4, .inl (v4)), (3, .inl (v2)), (0, .inr (10, 0, t)), (1, .inl (l1)), (2, .inl (l2))]) dX1_settle_20 (by decide) rfl rfl ?_
  refine K_iload_n (q := 23) 2 dX1_settle_22 rfl rfl rfl ?_
  refine K_iconst (q := 24) (v := -1) dX1_settle_23 rfl rfl ?_
  refine K_icmp_eq (q := 27) (tgt := 37) dX1_settle_24 rfl ?_ rfl ?_
  · exact J_vret dX1_settle_37
  · refine K_iload_n (q := 28) 2 dX1_settle_27 rfl rfl rfl ?_
    refine K_iload_n (q := 29) 4 dX1_settle_28 rfl rfl rfl ?_
    refine K_icmp_eq (q := 32) (tgt := 37) dX1_settle_29 rfl ?_ rfl ?_
    · exact J_vret dX1_settle_37
    · refine K_iload (q := 34) 0 dX1_settle_32 rfl rfl ?_
      refine K_if_ne (q := 37) (tgt := 38) dX1_settle_34 rfl ?_ rfl ?_
      · refine K_iload (q := 40) 1 dX1_settle_38 rfl rfl ?_
        refine K_csi (q := 43) [.inl (v4)] dX1_settle_40 cb_X3_isOwner cvRX1_182 rfl (Nat.le_of_ble_eq_true rfl) ⟨by decide, by decide⟩ (Nat.le_of_ble_eq_true rfl) rfl (tX3_isOwner v4 M5) rfl (fun v8 M7 => ?_)
        refine K_istore (q := 45) (ll' := [(6, .inl (v8)), (5, .inl (v6)), (4, .inl (v4)), (3, .inl (v2)), (0, .inr (10, 0, t)), (1, .inl (l1)), (2, .inl (l2))]) dX1_settle_43 (by decide) rfl rfl ?_
        refine K_aload_n (q := 46) 4 dX1_settle_45 rfl rfl rfl ?_
        refine K_iload_n (q := 47) 5 dX1_settle_46 rfl rfl rfl ?_
        refine K_iload_n (q := 48) 3 dX1_settle_47 rfl rfl rfl ?_
        refine K_cvi (q := 51) [.inl (l1), .inl (v2)] dX1_settle_48 cb_X1_entryAt cvRX1_248 rc_0 (show (10 : Nat) ≠ 0 by decide) rfl (Nat.le_of_ble_eq_true rfl) ⟨by decide, by decide⟩ (Nat.le_of_ble_eq_true rfl) rfl (tX1_entryAt t l1 v2 M7) rfl (fun v10 M9 => ?_)
        refine K_csi (q := 54) [.inl (v10)] dX1_settle_51 cb_X2_what cvRX1_263 rfl (Nat.le_of_ble_eq_true rfl) ⟨by decide, by decide⟩ (Nat.le_of_ble_eq_true rfl) rfl (tX2_what v10 M9) rfl (fun v12 M11 => ?_)
        refine K_iconst (q := 55) (v := nI 2) dX1_settle_54 rfl rfl ?_
        refine K_icmp_ne (q := 58) (tgt := 74) dX1_settle_55 rfl ?_ rfl ?_
        · refine K_iload (q := 76) 1 dX1_settle_74 rfl rfl ?_
          refine K_iconst (q := 77) (v := nI 1) dX1_settle_76 rfl rfl ?_
          refine K_icmp_le (q := 80) (tgt := 98) dX1_settle_77 rfl ?_ rfl ?_
          · refine K_iload (q := 100) 0 dX1_settle_98 rfl rfl ?_
            refine K_if_eq (q := 103) (tgt := 113) dX1_settle_100 rfl ?_ rfl ?_
            · exact J_vret dX1_settle_113
            · refine K_aload_n (q := 104) 4 dX1_settle_103 rfl rfl rfl ?_
              refine K_iload_n (q := 105) 5 dX1_settle_104 rfl rfl rfl ?_
              refine K_iload_n (q := 106) 3 dX1_settle_105 rfl rfl rfl ?_
              refine K_iload_n (q := 107) 6 dX1_settle_106 rfl rfl rfl ?_
              refine K_iconst (q := 108) (v := nI 1) dX1_settle_107 rfl rfl ?_
              refine K_iconst (q := 109) (v := nI 1) dX1_settle_108 rfl rfl ?_
              refine K_iconst (q := 110) (v := nI 1) dX1_settle_109 rfl rfl ?_
              refine K_cvv (q := 113) [.inl (l1), .inl (v2), .inl (l2), .inl ((nI 1)), .inl ((nI 1)), .inl ((nI 1))] dX1_settle_110 cb_X1_hand cvRX1_188 rc_0 (show (10 : Nat) ≠ 0 by decide) rfl (Nat.le_of_ble_eq_true rfl) ⟨by decide, by decide⟩ (Nat.le_of_ble_eq_true rfl) rfl (tX1_hand t l1 v2 l2 (nI 1) (nI 1) (nI 1) M11) rfl (fun M13 => ?_)
              exact J_vret dX1_settle_113
          · refine K_aload_n (q := 81) 4 dX1_settle_80 rfl rfl rfl ?_
            refine K_iload_n (q := 82) 5 dX1_settle_81 rfl rfl rfl ?_
            refine K_iload_n (q := 83) 3 dX1_settle_82 rfl rfl rfl ?_
            refine K_iload_n (q := 84) 6 dX1_settle_83 rfl rfl rfl ?_
            refine K_iload (q := 86) 1 dX1_settle_84 rfl rfl ?_
            refine K_iconst (q := 87) (v := nI 1) dX1_settle_86 rfl rfl ?_
            refine K_isub (q := 88) dX1_settle_87 rfl ?_
            refine K_iload (q := 90) 0 dX1_settle_88 rfl rfl ?_
            refine K_iload (q := 92) 0 dX1_settle_90 rfl rfl ?_
            refine K_cvv (q := 95) [.inl (l1), .inl (v2), .inl (l2), .inl (v6 - (nI 1)), .inl (v8), .inl (v8)] dX1_settle_92 cb_X1_hand cvRX1_188 rc_0 (show (10 : Nat) ≠ 0 by decide) rfl (Nat.le_of_ble_eq_true rfl) ⟨by decide, by decide⟩ (Nat.le_of_ble_eq_true rfl) rfl (tX1_hand t l1 v2 l2 (v6 - (nI 1)) v8 v8 M11) rfl (fun M14 => ?_)
            refine J_goto (tgt := 113) dX1_settle_95 rfl ?_
            exact J_vret dX1_settle_113
        · refine K_aload_n (q := 59) 4 dX1_settle_58 rfl rfl rfl ?_
          refine K_iload_n (q := 60) 5 dX1_settle_59 rfl rfl rfl ?_
          refine K_iload_n (q := 61) 3 dX1_settle_60 rfl rfl rfl ?_
          refine K_iload_n (q := 62) 6 dX1_settle_61 rfl rfl rfl ?_
          refine K_iload (q := 64) 1 dX1_settle_62 rfl rfl ?_
          refine K_iload (q := 66) 0 dX1_settle_64 rfl rfl ?_
          refine K_iload (q := 68) 0 dX1_settle_66 rfl rfl ?_
          refine K_cvv (q := 71) [.inl (l1), .inl (v2), .inl (l2), .inl (v6), .inl (v8), .inl (v8)] dX1_settle_68 cb_X1_hand cvRX1_188 rc_0 (show (10 : Nat) ≠ 0 by decide) rfl (Nat.le_of_ble_eq_true rfl) ⟨by decide, by decide⟩ (Nat.le_of_ble_eq_true rfl) rfl (tX1_hand t l1 v2 l2 v6 v8 v8 M11) rfl (fun M15 => ?_)
          refine J_goto (tgt := 113) dX1_settle_71 rfl ?_
          exact J_vret dX1_settle_113
      · exact J_vret dX1_settle_37
theorem dX1_postToOthers_0 : decode cX1_postToOthers 0 = .ok (.iconst 0, 1) := by decide +kernel
theorem dX1_postToOthers_1 : decode cX1_postToOthers 1 = .ok (.istore 5, 2) := by decide +kernel
theorem dX1_postToOthers_3 : decode cX1_postToOthers 3 = .ok (.iload 5, 2) := by decide +kernel
theorem dX1_postToOthers_5 : decode cX1_postToOthers 5 = .ok (.aload_n 0, 1) := by decide +kernel
theorem dX1_postToOthers_6 : decode cX1_postToOthers 6 = .ok (.getfield 33, 3) := by decide +kernel
theorem dX1_postToOthers_9 : decode cX1_postToOthers 9 = .ok (.if_icmp .ge 26, 3) := by decide +kernel
theorem dX1_postToOthers_12 : decode cX1_postToOthers 12 = .ok (.iload 5, 2) := by decide +kernel
theorem dX1_postToOthers_14 : decode cX1_postToOthers 14 = .ok (.iload_n 1, 1) := by decide +kernel
theorem dX1_postToOthers_15 : decode cX1_postToOthers 15 = .ok (.if_icmp .eq 14, 3) := by decide +kernel
theorem dX1_postToOthers_18 : decode cX1_postToOthers 18 = .ok (.aload_n 0, 1) := by decide +kernel
theorem dX1_postToOthers_19 : decode cX1_postToOthers 19 = .ok (.iload_n 1, 1) := by decide +kernel
theorem dX1_postToOthers_20 : decode cX1_postToOthers 20 = .ok (.iload 5, 2) := by decide +kernel
theorem dX1_postToOthers_22 : decode cX1_postToOthers 22 = .ok (.iload_n 2, 1) := by decide +kernel
theorem dX1_postToOthers_23 : decode cX1_postToOthers 23 = .ok (.iload_n 3, 1) := by decide +kernel
theorem dX1_postToOthers_24 : decode cX1_postToOthers 24 = .ok (.iload 4, 2) := by decide +kernel
theorem dX1_postToOthers_26 : decode cX1_postToOthers 26 = .ok (.invokevirtual 152, 3) := by decide +kernel
theorem dX1_postToOthers_29 : decode cX1_postToOthers 29 = .ok (.iinc 5 1, 3) := by decide +kernel
theorem dX1_postToOthers_32 : decode cX1_postToOthers 32 = .ok (.goto (-29), 3) := by decide +kernel
theorem dX1_postToOthers_35 : decode cX1_postToOthers 35 = .ok (.aload_n 0, 1) := by decide +kernel
theorem dX1_postToOthers_36 : decode cX1_postToOthers 36 = .ok (.iload_n 1, 1) := by decide +kernel
theorem dX1_postToOthers_37 : decode cX1_postToOthers 37 = .ok (.bipush 6, 2) := by decide +kernel
theorem dX1_postToOthers_39 : decode cX1_postToOthers 39 = .ok (.iload_n 2, 1) := by decide +kernel
theorem dX1_postToOthers_40 : decode cX1_postToOthers 40 = .ok (.iload_n 3, 1) := by decide +kernel
theorem dX1_postToOthers_41 : decode cX1_postToOthers 41 = .ok (.iload 4, 2) := by decide +kernel
theorem dX1_postToOthers_43 : decode cX1_postToOthers 43 = .ok (.invokevirtual 152, 3) := by decide +kernel
theorem dX1_postToOthers_46 : decode cX1_postToOthers 46 = .ok (.return_, 1) := by decide +kernel
def xX1_postToOthers_3  (t : Nat) : Nat → Int32 → Int32 → Int32 → Int32 → Int32 → j_M → Option (j_M)
  | 0, _, _, _, _, _, _ => none
  | n + 1, l1, l2, l3, l4, l5, M => oli (M t 9) fun v1 => (if v1 ≤ l5 then obv (xX1_post t l1 (nI 6) l2 l3 l4 M) fun M2 => some M2 else (if l5 = l1 then xX1_postToOthers_3 t n l1 l2 l3 l4 (l5 + (nI 1)) M else obv (xX1_post t l1 l5 l2 l3 l4 M) fun M3 => xX1_postToOthers_3 t n l1 l2 l3 l4 (l5 + (nI 1)) M3))
set_option maxRecDepth 20000 in
set_option maxHeartbeats 2000000 in
theorem tX1_postToOthers_3  (t : Nat)  : ∀ (n : Nat) (l1 : Int32) (l2 : Int32) (l3 : Int32) (l4 : Int32) (l5 : Int32) (M : j_M), J (ρ := j_M) yX1_postToOthers cX1_postToOthers 6 none 1 26 j_ev 3 [(0, .inr (10, 0, t)), (1, .inl (l1)), (2, .inl (l2)), (3, .inl (l3)), (4, .inl (l4)), (5, .inl (l5))] [] M (xX1_postToOthers_3 t n l1 l2 l3 l4 l5 M) := by
  intro n
  induction n with
  | zero => intros; exact J_none
  | succ n ih =>
    intro l1 l2 l3 l4 l5 M
    rw [xX1_postToOthers_3.eq_2]
    refine K_iload (q := 5) 5 dX1_postToOthers_3 rfl rfl ?_
    refine K_aload_n (q := 6) 0 dX1_postToOthers_5 rfl rfl rfl ?_
    refine K_getI (q := 9) (ci := 0) 9 dX1_postToOthers_6 fRX1_33 rfl rfl rfl (fun v1 => ?_)
    refine K_icmp_ge (q := 12) (tgt := 35) dX1_postToOthers_9 rfl ?_ rfl ?_
    · refine K_aload_n (q := 36) 0 dX1_postToOthers_35 rfl rfl rfl ?_
      refine K_iload_n (q := 37) 1 dX1_postToOthers_36 rfl rfl rfl ?_
      refine K_bipush (q := 39) (v := nI 6) dX1_postToOthers_37 rfl rfl ?_
      refine K_iload_n (q := 40) 2 dX1_postToOthers_39 rfl rfl rfl ?_
      refine K_iload_n (q := 41) 3 dX1_postToOthers_40 rfl rfl rfl ?_
      refine K_iload (q := 43) 4 dX1_postToOthers_41 rfl rfl ?_
      refine K_cvv (q := 46) [.inl (l1), .inl ((nI 6)), .inl (l2), .inl (l3), .inl (l4)] dX1_postToOthers_43 cb_X1_post cvRX1_152 rc_0 (show (10 : Nat) ≠ 0 by decide) rfl (Nat.le_of_ble_eq_true rfl) ⟨by decide, by decide⟩ (Nat.le_of_ble_eq_true rfl) rfl (tX1_post t l1 (nI 6) l2 l3 l4 M) rfl (fun M2 => ?_)
      exact J_vret dX1_postToOthers_46
    · refine K_iload (q := 14) 5 dX1_postToOthers_12 rfl rfl ?_
      refine K_iload_n (q := 15) 1 dX1_postToOthers_14 rfl rfl rfl ?_
      refine K_icmp_eq (q := 18) (tgt := 29) dX1_postToOthers_15 rfl ?_ rfl ?_
      · refine K_iinc (q := 32) (v := l5 + (nI 1)) (ll' := [(5, .inl (l5 + (nI 1))), (0, .inr (10, 0, t)), (1, .inl (l1)), (2, .inl (l2)), (3, .inl (l3)), (4, .inl (l4))]) 5 dX1_postToOthers_29 rfl rfl (by decide) rfl rfl ?_
        refine J_goto (tgt := 3) dX1_postToOthers_32 rfl ?_
        exact J_sub [1, 2, 3, 4, 5, 0] (ih l1 l2 l3 l4 (l5 + (nI 1)) M) rfl
      · refine K_aload_n (q := 19) 0 dX1_postToOthers_18 rfl rfl rfl ?_
        refine K_iload_n (q := 20) 1 dX1_postToOthers_19 rfl rfl rfl ?_
        refine K_iload (q := 22) 5 dX1_postToOthers_20 rfl rfl ?_
        refine K_iload_n (q := 23) 2 dX1_postToOthers_22 rfl rfl rfl ?_
        refine K_iload_n (q := 24) 3 dX1_postToOthers_23 rfl rfl rfl ?_
        refine K_iload (q := 26) 4 dX1_postToOthers_24 rfl rfl ?_
        refine K_cvv (q := 29) [.inl (l1), .inl (l5), .inl (l2), .inl (l3), .inl (l4)] dX1_postToOthers_26 cb_X1_post cvRX1_152 rc_0 (show (10 : Nat) ≠ 0 by decide) rfl (Nat.le_of_ble_eq_true rfl) ⟨by decide, by decide⟩ (Nat.le_of_ble_eq_true rfl) rfl (tX1_post t l1 l5 l2 l3 l4 M) rfl (fun M3 => ?_)
        refine K_iinc (q := 32) (v := l5 + (nI 1)) (ll' := [(5, .inl (l5 + (nI 1))), (0, .inr (10, 0, t)), (1, .inl (l1)), (2, .inl (l2)), (3, .inl (l3)), (4, .inl (l4))]) 5 dX1_postToOthers_29 rfl rfl (by decide) rfl rfl ?_
        refine J_goto (tgt := 3) dX1_postToOthers_32 rfl ?_
        exact J_sub [1, 2, 3, 4, 5, 0] (ih l1 l2 l3 l4 (l5 + (nI 1)) M3) rfl
def xX1_postToOthers (t : Nat) (l1 : Int32) (l2 : Int32) (l3 : Int32) (l4 : Int32) (M : j_M) : Option (j_M) := xX1_postToOthers_3 t fu l1 l2 l3 l4 (nI 0) M
set_option maxRecDepth 20000 in
set_option maxHeartbeats 2000000 in
theorem tX1_postToOthers (t : Nat) (l1 : Int32) (l2 : Int32) (l3 : Int32) (l4 : Int32) (M : j_M) : J (ρ := j_M) yX1_postToOthers cX1_postToOthers 6 none 1 26 j_ev 0 [(0, .inr (10, 0, t)), (1, .inl (l1)), (2, .inl (l2)), (3, .inl (l3)), (4, .inl (l4))] [] M (xX1_postToOthers t l1 l2 l3 l4 M) := by
  unfold xX1_postToOthers
  refine K_iconst (q := 1) (v := nI 0) dX1_postToOthers_0 rfl rfl ?_
  refine K_istore (q := 3) (ll' := [(5, .inl ((nI 0))), (0, .inr (10, 0, t)), (1, .inl (l1)), (2, .inl (l2)), (3, .inl (l3)), (4, .inl (l4))]) dX1_postToOthers_1 (by decide) rfl rfl ?_
  exact J_sub [1, 2, 3, 4, 5, 0] (tX1_postToOthers_3 t fu l1 l2 l3 l4 (nI 0) M) rfl
theorem dX1_linesHeld_0 : decode cX1_linesHeld 0 = .ok (.aload_n 0, 1) := by decide +kernel
theorem dX1_linesHeld_1 : decode cX1_linesHeld 1 = .ok (.getfield 11, 3) := by decide +kernel
theorem dX1_linesHeld_4 : decode cX1_linesHeld 4 = .ok (.iload_n 1, 1) := by decide +kernel
theorem dX1_linesHeld_5 : decode cX1_linesHeld 5 = .ok (.invokestatic 73, 3) := by decide +kernel
theorem dX1_linesHeld_8 : decode cX1_linesHeld 8 = .ok (.bipush 14, 2) := by decide +kernel
theorem dX1_linesHeld_10 : decode cX1_linesHeld 10 = .ok (.iadd, 1) := by decide +kernel
theorem dX1_linesHeld_11 : decode cX1_linesHeld 11 = .ok (.iaload, 1) := by decide +kernel
theorem dX1_linesHeld_12 : decode cX1_linesHeld 12 = .ok (.istore_n 2, 1) := by decide +kernel
theorem dX1_linesHeld_13 : decode cX1_linesHeld 13 = .ok (.iconst 0, 1) := by decide +kernel
theorem dX1_linesHeld_14 : decode cX1_linesHeld 14 = .ok (.istore_n 3, 1) := by decide +kernel
theorem dX1_linesHeld_15 : decode cX1_linesHeld 15 = .ok (.iconst 0, 1) := by decide +kernel
theorem dX1_linesHeld_16 : decode cX1_linesHeld 16 = .ok (.istore 4, 2) := by decide +kernel
theorem dX1_linesHeld_18 : decode cX1_linesHeld 18 = .ok (.iload 4, 2) := by decide +kernel
theorem dX1_linesHeld_20 : decode cX1_linesHeld 20 = .ok (.bipush 8, 2) := by decide +kernel
theorem dX1_linesHeld_22 : decode cX1_linesHeld 22 = .ok (.if_icmp .ge 24, 3) := by decide +kernel
theorem dX1_linesHeld_25 : decode cX1_linesHeld 25 = .ok (.iload_n 2, 1) := by decide +kernel
theorem dX1_linesHeld_26 : decode cX1_linesHeld 26 = .ok (.iconst 4, 1) := by decide +kernel
theorem dX1_linesHeld_27 : decode cX1_linesHeld 27 = .ok (.iload 4, 2) := by decide +kernel
theorem dX1_linesHeld_29 : decode cX1_linesHeld 29 = .ok (.imul, 1) := by decide +kernel
theorem dX1_linesHeld_30 : decode cX1_linesHeld 30 = .ok (.iushr, 1) := by decide +kernel
theorem dX1_linesHeld_31 : decode cX1_linesHeld 31 = .ok (.bipush 15, 2) := by decide +kernel
theorem dX1_linesHeld_33 : decode cX1_linesHeld 33 = .ok (.iand, 1) := by decide +kernel
theorem dX1_linesHeld_34 : decode cX1_linesHeld 34 = .ok (.ifCond .eq 6, 3) := by decide +kernel
theorem dX1_linesHeld_37 : decode cX1_linesHeld 37 = .ok (.iinc 3 1, 3) := by decide +kernel
theorem dX1_linesHeld_40 : decode cX1_linesHeld 40 = .ok (.iinc 4 1, 3) := by decide +kernel
theorem dX1_linesHeld_43 : decode cX1_linesHeld 43 = .ok (.goto (-25), 3) := by decide +kernel
theorem dX1_linesHeld_46 : decode cX1_linesHeld 46 = .ok (.iload_n 3, 1) := by decide +kernel
theorem dX1_linesHeld_47 : decode cX1_linesHeld 47 = .ok (.ireturn, 1) := by decide +kernel
def xX1_linesHeld_18  (t : Nat) : Nat → Int32 → Int32 → Int32 → j_M → Option (Int32 × j_M)
  | 0, _, _, _, _ => none
  | n + 1, l2, l3, l4, M => (if (nI 8) ≤ l4 then some (l3, M) else (if (us l2 ((nI 4) * l4)) &&& (nI 15) = (0 : Int32) then xX1_linesHeld_18 t n l2 l3 (l4 + (nI 1)) M else xX1_linesHeld_18 t n l2 (l3 + (nI 1)) (l4 + (nI 1)) M))
set_option maxRecDepth 20000 in
set_option maxHeartbeats 2000000 in
theorem tX1_linesHeld_18  (t : Nat)  : ∀ (n : Nat) (l2 : Int32) (l3 : Int32) (l4 : Int32) (M : j_M), J (ρ := Int32 × j_M) yX1_linesHeld cX1_linesHeld 5 (some .int) 1 20 j_ei 18 [(2, .inl (l2)), (3, .inl (l3)), (4, .inl (l4))] [] M (xX1_linesHeld_18 t n l2 l3 l4 M) := by
  intro n
  induction n with
  | zero => intros; exact J_none
  | succ n ih =>
    intro l2 l3 l4 M
    rw [xX1_linesHeld_18.eq_2]
    refine K_iload (q := 20) 2 dX1_linesHeld_18 rfl rfl ?_
    refine K_bipush (q := 22) (v := nI 8) dX1_linesHeld_20 rfl rfl ?_
    refine K_icmp_ge (q := 25) (tgt := 46) dX1_linesHeld_22 rfl ?_ rfl ?_
    · refine K_iload_n (q := 47) 1 dX1_linesHeld_46 rfl rfl rfl ?_
      exact J_iret dX1_linesHeld_47
    · refine K_iload_n (q := 26) 0 dX1_linesHeld_25 rfl rfl rfl ?_
      refine K_iconst (q := 27) (v := nI 4) dX1_linesHeld_26 rfl rfl ?_
      refine K_iload (q := 29) 2 dX1_linesHeld_27 rfl rfl ?_
      refine K_imul (q := 30) dX1_linesHeld_29 rfl ?_
      refine K_iushr (q := 31) dX1_linesHeld_30 rfl ?_
      refine K_bipush (q := 33) (v := nI 15) dX1_linesHeld_31 rfl rfl ?_
      refine K_iand (q := 34) dX1_linesHeld_33 rfl ?_
      refine K_if_eq (q := 37) (tgt := 40) dX1_linesHeld_34 rfl ?_ rfl ?_
      · refine K_iinc (q := 43) (v := l4 + (nI 1)) (ll' := [(4, .inl (l4 + (nI 1))), (2, .inl (l2)), (3, .inl (l3))]) 2 dX1_linesHeld_40 rfl rfl (by decide) rfl rfl ?_
        refine J_goto (tgt := 18) dX1_linesHeld_43 rfl ?_
        exact J_sub [1, 2, 0] (ih l2 l3 (l4 + (nI 1)) M) rfl
      · refine K_iinc (q := 40) (v := l3 + (nI 1)) (ll' := [(3, .inl (l3 + (nI 1))), (2, .inl (l2)), (4, .inl (l4))]) 1 dX1_linesHeld_37 rfl rfl (by decide) rfl rfl ?_
        refine K_iinc (q := 43) (v := l4 + (nI 1)) (ll' := [(4, .inl (l4 + (nI 1))), (3, .inl (l3 + (nI 1))), (2, .inl (l2))]) 2 dX1_linesHeld_40 rfl rfl (by decide) rfl rfl ?_
        refine J_goto (tgt := 18) dX1_linesHeld_43 rfl ?_
        exact J_sub [2, 1, 0] (ih l2 (l3 + (nI 1)) (l4 + (nI 1)) M) rfl
def xX1_linesHeld (t : Nat) (l1 : Int32) (M : j_M) : Option (Int32 × j_M) := obi (xX1_blockOf l1 M) fun v2 M1 => gd (v2 + (nI 14)) 112 (oli (M1 (t + 1) (ix (v2 + (nI 14)))) fun v3 => xX1_linesHeld_18 t fu v3 (nI 0) (nI 0) M1)
set_option maxRecDepth 20000 in
set_option maxHeartbeats 2000000 in
theorem tX1_linesHeld (t : Nat) (l1 : Int32) (M : j_M) : J (ρ := Int32 × j_M) yX1_linesHeld cX1_linesHeld 5 (some .int) 1 20 j_ei 0 [(0, .inr (10, 0, t)), (1, .inl (l1))] [] M (xX1_linesHeld t l1 M) := by
  unfold xX1_linesHeld
  refine K_aload_n (q := 1) 0 dX1_linesHeld_0 rfl rfl rfl ?_
  refine K_getR (q := 4) (ci := 0) (a2 := t + 1) 1 dX1_linesHeld_1 fRX1_11 rfl rfl (by decide) rfl rfl ?_
  refine K_iload_n (q := 5) 1 dX1_linesHeld_4 rfl rfl rfl ?_
  refine K_csi (q := 8) [.inl (l1)] dX1_linesHeld_5 cb_X1_blockOf cvRX1_73 rfl (Nat.le_of_ble_eq_true rfl) ⟨by decide, by decide⟩ (Nat.le_of_ble_eq_true rfl) rfl (tX1_blockOf l1 M) rfl (fun v2 M1 => ?_)
  refine K_bipush (q := 10) (v := nI 14) dX1_linesHeld_8 rfl rfl ?_
  refine K_iadd (q := 11) dX1_linesHeld_10 rfl ?_
  refine K_iald (q := 12) dX1_linesHeld_11 rfl (fun v3 => ?_)
  refine K_istore_n (q := 13) (ll' := [(2, .inl (v3)), (0, .inr (10, 0, t)), (1, .inl (l1))]) dX1_linesHeld_12 rfl (by decide) rfl rfl ?_
  refine K_iconst (q := 14) (v := nI 0) dX1_linesHeld_13 rfl rfl ?_
  refine K_istore_n (q := 15) (ll' := [(3, .inl ((nI 0))), (2, .inl (v3)), (0, .inr (10, 0, t)), (1, .inl (l1))]) dX1_linesHeld_14 rfl (by decide) rfl rfl ?_
  refine K_iconst (q := 16) (v := nI 0) dX1_linesHeld_15 rfl rfl ?_
  refine K_istore (q := 18) (ll' := [(4, .inl ((nI 0))), (3, .inl ((nI 0))), (2, .inl (v3)), (0, .inr (10, 0, t)), (1, .inl (l1))]) dX1_linesHeld_16 (by decide) rfl rfl ?_
  exact J_sub [2, 1, 0] (tX1_linesHeld_18 t fu v3 (nI 0) (nI 0) M1) rfl
theorem dX1_missedLine_0 : decode cX1_missedLine 0 = .ok (.aload_n 0, 1) := by decide +kernel
theorem dX1_missedLine_1 : decode cX1_missedLine 1 = .ok (.getfield 11, 3) := by decide +kernel
theorem dX1_missedLine_4 : decode cX1_missedLine 4 = .ok (.iload_n 1, 1) := by decide +kernel
theorem dX1_missedLine_5 : decode cX1_missedLine 5 = .ok (.invokestatic 73, 3) := by decide +kernel
theorem dX1_missedLine_8 : decode cX1_missedLine 8 = .ok (.bipush 15, 2) := by decide +kernel
theorem dX1_missedLine_10 : decode cX1_missedLine 10 = .ok (.iadd, 1) := by decide +kernel
theorem dX1_missedLine_11 : decode cX1_missedLine 11 = .ok (.iaload, 1) := by decide +kernel
theorem dX1_missedLine_12 : decode cX1_missedLine 12 = .ok (.istore_n 2, 1) := by decide +kernel
theorem dX1_missedLine_13 : decode cX1_missedLine 13 = .ok (.iload_n 2, 1) := by decide +kernel
theorem dX1_missedLine_14 : decode cX1_missedLine 14 = .ok (.ifCond .ne 7, 3) := by decide +kernel
theorem dX1_missedLine_17 : decode cX1_missedLine 17 = .ok (.iconst (-1), 1) := by decide +kernel
theorem dX1_missedLine_18 : decode cX1_missedLine 18 = .ok (.goto 7, 3) := by decide +kernel
theorem dX1_missedLine_21 : decode cX1_missedLine 21 = .ok (.iload_n 2, 1) := by decide +kernel
theorem dX1_missedLine_22 : decode cX1_missedLine 22 = .ok (.invokestatic 77, 3) := by decide +kernel
theorem dX1_missedLine_25 : decode cX1_missedLine 25 = .ok (.ireturn, 1) := by decide +kernel
def xX1_missedLine (t : Nat) (l1 : Int32) (M : j_M) : Option (Int32 × j_M) := obi (xX1_blockOf l1 M) fun v2 M1 => gd (v2 + (nI 15)) 112 (oli (M1 (t + 1) (ix (v2 + (nI 15)))) fun v3 => (if v3 = (0 : Int32) then some ((-1 : Int32), M1) else obi (xX7_line v3 M1) fun v5 M4 => some (v5, M4)))
set_option maxRecDepth 20000 in
set_option maxHeartbeats 2000000 in
theorem tX1_missedLine (t : Nat) (l1 : Int32) (M : j_M) : J (ρ := Int32 × j_M) yX1_missedLine cX1_missedLine 3 (some .int) 1 20 j_ei 0 [(0, .inr (10, 0, t)), (1, .inl (l1))] [] M (xX1_missedLine t l1 M) := by
  unfold xX1_missedLine
  refine K_aload_n (q := 1) 0 dX1_missedLine_0 rfl rfl rfl ?_
  refine K_getR (q := 4) (ci := 0) (a2 := t + 1) 1 dX1_missedLine_1 fRX1_11 rfl rfl (by decide) rfl rfl ?_
  refine K_iload_n (q := 5) 1 dX1_missedLine_4 rfl rfl rfl ?_
  refine K_csi (q := 8) [.inl (l1)] dX1_missedLine_5 cb_X1_blockOf cvRX1_73 rfl (Nat.le_of_ble_eq_true rfl) ⟨by decide, by decide⟩ (Nat.le_of_ble_eq_true rfl) rfl (tX1_blockOf l1 M) rfl (fun v2 M1 => ?_)
  refine K_bipush (q := 10) (v := nI 15) dX1_missedLine_8 rfl rfl ?_
  refine K_iadd (q := 11) dX1_missedLine_10 rfl ?_
  refine K_iald (q := 12) dX1_missedLine_11 rfl (fun v3 => ?_)
  refine K_istore_n (q := 13) (ll' := [(2, .inl (v3)), (0, .inr (10, 0, t)), (1, .inl (l1))]) dX1_missedLine_12 rfl (by decide) rfl rfl ?_
  refine K_iload_n (q := 14) 0 dX1_missedLine_13 rfl rfl rfl ?_
  refine K_if_ne (q := 17) (tgt := 21) dX1_missedLine_14 rfl ?_ rfl ?_
  · refine K_iload_n (q := 22) 0 dX1_missedLine_21 rfl rfl rfl ?_
    refine K_csi (q := 25) [.inl (v3)] dX1_missedLine_22 cb_X7_line cvRX1_77 rfl (Nat.le_of_ble_eq_true rfl) ⟨by decide, by decide⟩ (Nat.le_of_ble_eq_true rfl) rfl (tX7_line v3 M1) rfl (fun v5 M4 => ?_)
    exact J_iret dX1_missedLine_25
  · refine K_iconst (q := 18) (v := -1) dX1_missedLine_17 rfl rfl ?_
    refine J_goto (tgt := 25) dX1_missedLine_18 rfl ?_
    exact J_iret dX1_missedLine_25
theorem dX1_hasTime_0 : decode cX1_hasTime 0 = .ok (.iload_n 1, 1) := by decide +kernel
theorem dX1_hasTime_1 : decode cX1_hasTime 1 = .ok (.sipush 9999, 3) := by decide +kernel
theorem dX1_hasTime_4 : decode cX1_hasTime 4 = .ok (.aload_n 0, 1) := by decide +kernel
theorem dX1_hasTime_5 : decode cX1_hasTime 5 = .ok (.getfield 70, 3) := by decide +kernel
theorem dX1_hasTime_8 : decode cX1_hasTime 8 = .ok (.isub, 1) := by decide +kernel
theorem dX1_hasTime_9 : decode cX1_hasTime 9 = .ok (.if_icmp .gt 7, 3) := by decide +kernel
theorem dX1_hasTime_12 : decode cX1_hasTime 12 = .ok (.iconst 1, 1) := by decide +kernel
theorem dX1_hasTime_13 : decode cX1_hasTime 13 = .ok (.goto 4, 3) := by decide +kernel
theorem dX1_hasTime_16 : decode cX1_hasTime 16 = .ok (.iconst 0, 1) := by decide +kernel
theorem dX1_hasTime_17 : decode cX1_hasTime 17 = .ok (.ireturn, 1) := by decide +kernel
def xX1_hasTime (t : Nat) (l1 : Int32) (M : j_M) : Option (Int32 × j_M) := oli (M t 14) fun v1 => (if ((nI 9999) - v1) < l1 then some ((nI 0), M) else some ((nI 1), M))
set_option maxRecDepth 20000 in
set_option maxHeartbeats 2000000 in
theorem tX1_hasTime (t : Nat) (l1 : Int32) (M : j_M) : J (ρ := Int32 × j_M) yX1_hasTime cX1_hasTime 2 (some .boolean) 0 0 j_ei 0 [(0, .inr (10, 0, t)), (1, .inl (l1))] [] M (xX1_hasTime t l1 M) := by
  unfold xX1_hasTime
  refine K_iload_n (q := 1) 1 dX1_hasTime_0 rfl rfl rfl ?_
  refine K_sipush (q := 4) (v := nI 9999) dX1_hasTime_1 rfl rfl ?_
  refine K_aload_n (q := 5) 0 dX1_hasTime_4 rfl rfl rfl ?_
  refine K_getI (q := 8) (ci := 0) 14 dX1_hasTime_5 fRX1_70 rfl rfl rfl (fun v1 => ?_)
  refine K_isub (q := 9) dX1_hasTime_8 rfl ?_
  refine K_icmp_gt (q := 12) (tgt := 16) dX1_hasTime_9 rfl ?_ rfl ?_
  · refine K_iconst (q := 17) (v := nI 0) dX1_hasTime_16 rfl rfl ?_
    exact J_zret dX1_hasTime_17 (by decide)
  · refine K_iconst (q := 13) (v := nI 1) dX1_hasTime_12 rfl rfl ?_
    refine J_goto (tgt := 17) dX1_hasTime_13 rfl ?_
    exact J_zret dX1_hasTime_17 (by decide)
theorem dX1_isNode_0 : decode cX1_isNode 0 = .ok (.iload_n 1, 1) := by decide +kernel
theorem dX1_isNode_1 : decode cX1_isNode 1 = .ok (.bipush 6, 2) := by decide +kernel
theorem dX1_isNode_3 : decode cX1_isNode 3 = .ok (.if_icmp .eq 15, 3) := by decide +kernel
theorem dX1_isNode_6 : decode cX1_isNode 6 = .ok (.iload_n 1, 1) := by decide +kernel
theorem dX1_isNode_7 : decode cX1_isNode 7 = .ok (.ifCond .lt 15, 3) := by decide +kernel
theorem dX1_isNode_10 : decode cX1_isNode 10 = .ok (.iload_n 1, 1) := by decide +kernel
theorem dX1_isNode_11 : decode cX1_isNode 11 = .ok (.aload_n 0, 1) := by decide +kernel
theorem dX1_isNode_12 : decode cX1_isNode 12 = .ok (.getfield 33, 3) := by decide +kernel
theorem dX1_isNode_15 : decode cX1_isNode 15 = .ok (.if_icmp .ge 7, 3) := by decide +kernel
theorem dX1_isNode_18 : decode cX1_isNode 18 = .ok (.iconst 1, 1) := by decide +kernel
theorem dX1_isNode_19 : decode cX1_isNode 19 = .ok (.goto 4, 3) := by decide +kernel
theorem dX1_isNode_22 : decode cX1_isNode 22 = .ok (.iconst 0, 1) := by decide +kernel
theorem dX1_isNode_23 : decode cX1_isNode 23 = .ok (.ireturn, 1) := by decide +kernel
def xX1_isNode (t : Nat) (l1 : Int32) (M : j_M) : Option (Int32 × j_M) := (if l1 = (nI 6) then some ((nI 1), M) else (if l1 < (0 : Int32) then some ((nI 0), M) else oli (M t 9) fun v1 => (if v1 ≤ l1 then some ((nI 0), M) else some ((nI 1), M))))
set_option maxRecDepth 20000 in
set_option maxHeartbeats 2000000 in
theorem tX1_isNode (t : Nat) (l1 : Int32) (M : j_M) : J (ρ := Int32 × j_M) yX1_isNode cX1_isNode 2 (some .boolean) 0 0 j_ei 0 [(0, .inr (10, 0, t)), (1, .inl (l1))] [] M (xX1_isNode t l1 M) := by
  unfold xX1_isNode
  refine K_iload_n (q := 1) 1 dX1_isNode_0 rfl rfl rfl ?_
  refine K_bipush (q := 3) (v := nI 6) dX1_isNode_1 rfl rfl ?_
  refine K_icmp_eq (q := 6) (tgt := 18) dX1_isNode_3 rfl ?_ rfl ?_
  · refine K_iconst (q := 19) (v := nI 1) dX1_isNode_18 rfl rfl ?_
    refine J_goto (tgt := 23) dX1_isNode_19 rfl ?_
    exact J_zret dX1_isNode_23 (by decide)
  · refine K_iload_n (q := 7) 1 dX1_isNode_6 rfl rfl rfl ?_
    refine K_if_lt (q := 10) (tgt := 22) dX1_isNode_7 rfl ?_ rfl ?_
    · refine K_iconst (q := 23) (v := nI 0) dX1_isNode_22 rfl rfl ?_
      exact J_zret dX1_isNode_23 (by decide)
    · refine K_iload_n (q := 11) 1 dX1_isNode_10 rfl rfl rfl ?_
      refine K_aload_n (q := 12) 0 dX1_isNode_11 rfl rfl rfl ?_
      refine K_getI (q := 15) (ci := 0) 9 dX1_isNode_12 fRX1_33 rfl rfl rfl (fun v1 => ?_)
      refine K_icmp_ge (q := 18) (tgt := 22) dX1_isNode_15 rfl ?_ rfl ?_
      · refine K_iconst (q := 23) (v := nI 0) dX1_isNode_22 rfl rfl ?_
        exact J_zret dX1_isNode_23 (by decide)
      · refine K_iconst (q := 19) (v := nI 1) dX1_isNode_18 rfl rfl ?_
        refine J_goto (tgt := 23) dX1_isNode_19 rfl ?_
        exact J_zret dX1_isNode_23 (by decide)
theorem dX1_placeByUse_0 : decode cX1_placeByUse 0 = .ok (.aload_n 0, 1) := by decide +kernel
theorem dX1_placeByUse_1 : decode cX1_placeByUse 1 = .ok (.getfield 11, 3) := by decide +kernel
theorem dX1_placeByUse_4 : decode cX1_placeByUse 4 = .ok (.iload_n 1, 1) := by decide +kernel
theorem dX1_placeByUse_5 : decode cX1_placeByUse 5 = .ok (.invokestatic 73, 3) := by decide +kernel
theorem dX1_placeByUse_8 : decode cX1_placeByUse 8 = .ok (.bipush 14, 2) := by decide +kernel
theorem dX1_placeByUse_10 : decode cX1_placeByUse 10 = .ok (.iadd, 1) := by decide +kernel
theorem dX1_placeByUse_11 : decode cX1_placeByUse 11 = .ok (.iaload, 1) := by decide +kernel
theorem dX1_placeByUse_12 : decode cX1_placeByUse 12 = .ok (.istore_n 3, 1) := by decide +kernel
theorem dX1_placeByUse_13 : decode cX1_placeByUse 13 = .ok (.iconst 0, 1) := by decide +kernel
theorem dX1_placeByUse_14 : decode cX1_placeByUse 14 = .ok (.istore 4, 2) := by decide +kernel
theorem dX1_placeByUse_16 : decode cX1_placeByUse 16 = .ok (.iload 4, 2) := by decide +kernel
theorem dX1_placeByUse_18 : decode cX1_placeByUse 18 = .ok (.bipush 8, 2) := by decide +kernel
theorem dX1_placeByUse_20 : decode cX1_placeByUse 20 = .ok (.if_icmp .ge 27, 3) := by decide +kernel
theorem dX1_placeByUse_23 : decode cX1_placeByUse 23 = .ok (.iload_n 3, 1) := by decide +kernel
theorem dX1_placeByUse_24 : decode cX1_placeByUse 24 = .ok (.iconst 4, 1) := by decide +kernel
theorem dX1_placeByUse_25 : decode cX1_placeByUse 25 = .ok (.iload 4, 2) := by decide +kernel
theorem dX1_placeByUse_27 : decode cX1_placeByUse 27 = .ok (.imul, 1) := by decide +kernel
theorem dX1_placeByUse_28 : decode cX1_placeByUse 28 = .ok (.iushr, 1) := by decide +kernel
theorem dX1_placeByUse_29 : decode cX1_placeByUse 29 = .ok (.bipush 15, 2) := by decide +kernel
theorem dX1_placeByUse_31 : decode cX1_placeByUse 31 = .ok (.iand, 1) := by decide +kernel
theorem dX1_placeByUse_32 : decode cX1_placeByUse 32 = .ok (.iload_n 2, 1) := by decide +kernel
theorem dX1_placeByUse_33 : decode cX1_placeByUse 33 = .ok (.iconst 1, 1) := by decide +kernel
theorem dX1_placeByUse_34 : decode cX1_placeByUse 34 = .ok (.iadd, 1) := by decide +kernel
theorem dX1_placeByUse_35 : decode cX1_placeByUse 35 = .ok (.if_icmp .ne 6, 3) := by decide +kernel
theorem dX1_placeByUse_38 : decode cX1_placeByUse 38 = .ok (.iload 4, 2) := by decide +kernel
theorem dX1_placeByUse_40 : decode cX1_placeByUse 40 = .ok (.ireturn, 1) := by decide +kernel
theorem dX1_placeByUse_41 : decode cX1_placeByUse 41 = .ok (.iinc 4 1, 3) := by decide +kernel
theorem dX1_placeByUse_44 : decode cX1_placeByUse 44 = .ok (.goto (-28), 3) := by decide +kernel
theorem dX1_placeByUse_47 : decode cX1_placeByUse 47 = .ok (.iconst (-1), 1) := by decide +kernel
theorem dX1_placeByUse_48 : decode cX1_placeByUse 48 = .ok (.ireturn, 1) := by decide +kernel
def xX1_placeByUse_16  (t : Nat) : Nat → Int32 → Int32 → Int32 → j_M → Option (Int32 × j_M)
  | 0, _, _, _, _ => none
  | n + 1, l2, l3, l4, M => (if (nI 8) ≤ l4 then some ((-1 : Int32), M) else (if (us l3 ((nI 4) * l4)) &&& (nI 15) = l2 + (nI 1) then some (l4, M) else xX1_placeByUse_16 t n l2 l3 (l4 + (nI 1)) M))
set_option maxRecDepth 20000 in
set_option maxHeartbeats 2000000 in
theorem tX1_placeByUse_16  (t : Nat)  : ∀ (n : Nat) (l2 : Int32) (l3 : Int32) (l4 : Int32) (M : j_M), J (ρ := Int32 × j_M) yX1_placeByUse cX1_placeByUse 5 (some .int) 1 20 j_ei 16 [(2, .inl (l2)), (3, .inl (l3)), (4, .inl (l4))] [] M (xX1_placeByUse_16 t n l2 l3 l4 M) := by
  intro n
  induction n with
  | zero => intros; exact J_none
  | succ n ih =>
    intro l2 l3 l4 M
    rw [xX1_placeByUse_16.eq_2]
    refine K_iload (q := 18) 2 dX1_placeByUse_16 rfl rfl ?_
    refine K_bipush (q := 20) (v := nI 8) dX1_placeByUse_18 rfl rfl ?_
    refine K_icmp_ge (q := 23) (tgt := 47) dX1_placeByUse_20 rfl ?_ rfl ?_
    · refine K_iconst (q := 48) (v := -1) dX1_placeByUse_47 rfl rfl ?_
      exact J_iret dX1_placeByUse_48
    · refine K_iload_n (q := 24) 1 dX1_placeByUse_23 rfl rfl rfl ?_
      refine K_iconst (q := 25) (v := nI 4) dX1_placeByUse_24 rfl rfl ?_
      refine K_iload (q := 27) 2 dX1_placeByUse_25 rfl rfl ?_
      refine K_imul (q := 28) dX1_placeByUse_27 rfl ?_
      refine K_iushr (q := 29) dX1_placeByUse_28 rfl ?_
      refine K_bipush (q := 31) (v := nI 15) dX1_placeByUse_29 rfl rfl ?_
      refine K_iand (q := 32) dX1_placeByUse_31 rfl ?_
      refine K_iload_n (q := 33) 0 dX1_placeByUse_32 rfl rfl rfl ?_
      refine K_iconst (q := 34) (v := nI 1) dX1_placeByUse_33 rfl rfl ?_
      refine K_iadd (q := 35) dX1_placeByUse_34 rfl ?_
      refine K_icmp_ne (q := 38) (tgt := 41) dX1_placeByUse_35 rfl ?_ rfl ?_
      · refine K_iinc (q := 44) (v := l4 + (nI 1)) (ll' := [(4, .inl (l4 + (nI 1))), (2, .inl (l2)), (3, .inl (l3))]) 2 dX1_placeByUse_41 rfl rfl (by decide) rfl rfl ?_
        refine J_goto (tgt := 16) dX1_placeByUse_44 rfl ?_
        exact J_sub [1, 2, 0] (ih l2 l3 (l4 + (nI 1)) M) rfl
      · refine K_iload (q := 40) 2 dX1_placeByUse_38 rfl rfl ?_
        exact J_iret dX1_placeByUse_40
def xX1_placeByUse (t : Nat) (l1 : Int32) (l2 : Int32) (M : j_M) : Option (Int32 × j_M) := obi (xX1_blockOf l1 M) fun v2 M1 => gd (v2 + (nI 14)) 112 (oli (M1 (t + 1) (ix (v2 + (nI 14)))) fun v3 => xX1_placeByUse_16 t fu l2 v3 (nI 0) M1)
set_option maxRecDepth 20000 in
set_option maxHeartbeats 2000000 in
theorem tX1_placeByUse (t : Nat) (l1 : Int32) (l2 : Int32) (M : j_M) : J (ρ := Int32 × j_M) yX1_placeByUse cX1_placeByUse 5 (some .int) 1 20 j_ei 0 [(0, .inr (10, 0, t)), (1, .inl (l1)), (2, .inl (l2))] [] M (xX1_placeByUse t l1 l2 M) := by
  unfold xX1_placeByUse
  refine K_aload_n (q := 1) 0 dX1_placeByUse_0 rfl rfl rfl ?_
  refine K_getR (q := 4) (ci := 0) (a2 := t + 1) 1 dX1_placeByUse_1 fRX1_11 rfl rfl (by decide) rfl rfl ?_
  refine K_iload_n (q := 5) 1 dX1_placeByUse_4 rfl rfl rfl ?_
  refine K_csi (q := 8) [.inl (l1)] dX1_placeByUse_5 cb_X1_blockOf cvRX1_73 rfl (Nat.le_of_ble_eq_true rfl) ⟨by decide, by decide⟩ (Nat.le_of_ble_eq_true rfl) rfl (tX1_blockOf l1 M) rfl (fun v2 M1 => ?_)
  refine K_bipush (q := 10) (v := nI 14) dX1_placeByUse_8 rfl rfl ?_
  refine K_iadd (q := 11) dX1_placeByUse_10 rfl ?_
  refine K_iald (q := 12) dX1_placeByUse_11 rfl (fun v3 => ?_)
  refine K_istore_n (q := 13) (ll' := [(3, .inl (v3)), (0, .inr (10, 0, t)), (1, .inl (l1)), (2, .inl (l2))]) dX1_placeByUse_12 rfl (by decide) rfl rfl ?_
  refine K_iconst (q := 14) (v := nI 0) dX1_placeByUse_13 rfl rfl ?_
  refine K_istore (q := 16) (ll' := [(4, .inl ((nI 0))), (3, .inl (v3)), (0, .inr (10, 0, t)), (1, .inl (l1)), (2, .inl (l2))]) dX1_placeByUse_14 (by decide) rfl rfl ?_
  exact J_sub [4, 1, 0] (tX1_placeByUse_16 t fu l2 v3 (nI 0) M1) rfl
theorem dX1_setPolicy_0 : decode cX1_setPolicy 0 = .ok (.iload_n 1, 1) := by decide +kernel
theorem dX1_setPolicy_1 : decode cX1_setPolicy 1 = .ok (.ifCond .lt 8, 3) := by decide +kernel
theorem dX1_setPolicy_4 : decode cX1_setPolicy 4 = .ok (.iload_n 1, 1) := by decide +kernel
theorem dX1_setPolicy_5 : decode cX1_setPolicy 5 = .ok (.iconst 3, 1) := by decide +kernel
theorem dX1_setPolicy_6 : decode cX1_setPolicy 6 = .ok (.if_icmp .le 5, 3) := by decide +kernel
theorem dX1_setPolicy_9 : decode cX1_setPolicy 9 = .ok (.iconst 0, 1) := by decide +kernel
theorem dX1_setPolicy_10 : decode cX1_setPolicy 10 = .ok (.ireturn, 1) := by decide +kernel
theorem dX1_setPolicy_11 : decode cX1_setPolicy 11 = .ok (.aload_n 0, 1) := by decide +kernel
theorem dX1_setPolicy_12 : decode cX1_setPolicy 12 = .ok (.iload_n 1, 1) := by decide +kernel
theorem dX1_setPolicy_13 : decode cX1_setPolicy 13 = .ok (.putfield 67, 3) := by decide +kernel
theorem dX1_setPolicy_16 : decode cX1_setPolicy 16 = .ok (.iconst 1, 1) := by decide +kernel
theorem dX1_setPolicy_17 : decode cX1_setPolicy 17 = .ok (.ireturn, 1) := by decide +kernel
def xX1_setPolicy (t : Nat) (l1 : Int32) (M : j_M) : Option (Int32 × j_M) := (if l1 < (0 : Int32) then some ((nI 0), M) else (if l1 ≤ (nI 3) then oml (mw M t 12 l1) fun M1 => some ((nI 1), M1) else some ((nI 0), M)))
set_option maxRecDepth 20000 in
set_option maxHeartbeats 2000000 in
theorem tX1_setPolicy (t : Nat) (l1 : Int32) (M : j_M) : J (ρ := Int32 × j_M) yX1_setPolicy cX1_setPolicy 2 (some .boolean) 0 0 j_ei 0 [(0, .inr (10, 0, t)), (1, .inl (l1))] [] M (xX1_setPolicy t l1 M) := by
  unfold xX1_setPolicy
  refine K_iload_n (q := 1) 1 dX1_setPolicy_0 rfl rfl rfl ?_
  refine K_if_lt (q := 4) (tgt := 9) dX1_setPolicy_1 rfl ?_ rfl ?_
  · refine K_iconst (q := 10) (v := nI 0) dX1_setPolicy_9 rfl rfl ?_
    exact J_zret dX1_setPolicy_10 (by decide)
  · refine K_iload_n (q := 5) 1 dX1_setPolicy_4 rfl rfl rfl ?_
    refine K_iconst (q := 6) (v := nI 3) dX1_setPolicy_5 rfl rfl ?_
    refine K_icmp_le (q := 9) (tgt := 11) dX1_setPolicy_6 rfl ?_ rfl ?_
    · refine K_aload_n (q := 12) 0 dX1_setPolicy_11 rfl rfl rfl ?_
      refine K_iload_n (q := 13) 1 dX1_setPolicy_12 rfl rfl rfl ?_
      refine K_putI (q := 16) (ci := 0) 12 dX1_setPolicy_13 fRX1_67 fp_0_12 rfl rfl (by decide) rfl (fun M1 => ?_)
      refine K_iconst (q := 17) (v := nI 1) dX1_setPolicy_16 rfl rfl ?_
      exact J_zret dX1_setPolicy_17 (by decide)
    · refine K_iconst (q := 10) (v := nI 0) dX1_setPolicy_9 rfl rfl ?_
      exact J_zret dX1_setPolicy_10 (by decide)
theorem dX1_isAllHome_0 : decode cX1_isAllHome 0 = .ok (.aload_n 0, 1) := by decide +kernel
theorem dX1_isAllHome_1 : decode cX1_isAllHome 1 = .ok (.getfield 64, 3) := by decide +kernel
theorem dX1_isAllHome_4 : decode cX1_isAllHome 4 = .ok (.ifCond .ne 7, 3) := by decide +kernel
theorem dX1_isAllHome_7 : decode cX1_isAllHome 7 = .ok (.iconst 1, 1) := by decide +kernel
theorem dX1_isAllHome_8 : decode cX1_isAllHome 8 = .ok (.goto 4, 3) := by decide +kernel
theorem dX1_isAllHome_11 : decode cX1_isAllHome 11 = .ok (.iconst 0, 1) := by decide +kernel
theorem dX1_isAllHome_12 : decode cX1_isAllHome 12 = .ok (.istore_n 1, 1) := by decide +kernel
theorem dX1_isAllHome_13 : decode cX1_isAllHome 13 = .ok (.iconst 0, 1) := by decide +kernel
theorem dX1_isAllHome_14 : decode cX1_isAllHome 14 = .ok (.istore_n 2, 1) := by decide +kernel
theorem dX1_isAllHome_15 : decode cX1_isAllHome 15 = .ok (.iload_n 2, 1) := by decide +kernel
theorem dX1_isAllHome_16 : decode cX1_isAllHome 16 = .ok (.bipush 8, 2) := by decide +kernel
theorem dX1_isAllHome_18 : decode cX1_isAllHome 18 = .ok (.if_icmp .ge 35, 3) := by decide +kernel
theorem dX1_isAllHome_21 : decode cX1_isAllHome 21 = .ok (.iload_n 1, 1) := by decide +kernel
theorem dX1_isAllHome_22 : decode cX1_isAllHome 22 = .ok (.ifCond .eq 23, 3) := by decide +kernel
theorem dX1_isAllHome_25 : decode cX1_isAllHome 25 = .ok (.aload_n 0, 1) := by decide +kernel
theorem dX1_isAllHome_26 : decode cX1_isAllHome 26 = .ok (.getfield 11, 3) := by decide +kernel
theorem dX1_isAllHome_29 : decode cX1_isAllHome 29 = .ok (.iload_n 2, 1) := by decide +kernel
theorem dX1_isAllHome_30 : decode cX1_isAllHome 30 = .ok (.iaload, 1) := by decide +kernel
theorem dX1_isAllHome_31 : decode cX1_isAllHome 31 = .ok (.invokestatic 82, 3) := by decide +kernel
theorem dX1_isAllHome_34 : decode cX1_isAllHome 34 = .ok (.aload_n 0, 1) := by decide +kernel
theorem dX1_isAllHome_35 : decode cX1_isAllHome 35 = .ok (.getfield 37, 3) := by decide +kernel
theorem dX1_isAllHome_38 : decode cX1_isAllHome 38 = .ok (.if_icmp .ne 7, 3) := by decide +kernel
theorem dX1_isAllHome_41 : decode cX1_isAllHome 41 = .ok (.iconst 1, 1) := by decide +kernel
theorem dX1_isAllHome_42 : decode cX1_isAllHome 42 = .ok (.goto 4, 3) := by decide +kernel
theorem dX1_isAllHome_45 : decode cX1_isAllHome 45 = .ok (.iconst 0, 1) := by decide +kernel
theorem dX1_isAllHome_46 : decode cX1_isAllHome 46 = .ok (.istore_n 1, 1) := by decide +kernel
theorem dX1_isAllHome_47 : decode cX1_isAllHome 47 = .ok (.iinc 2 1, 3) := by decide +kernel
theorem dX1_isAllHome_50 : decode cX1_isAllHome 50 = .ok (.goto (-35), 3) := by decide +kernel
theorem dX1_isAllHome_53 : decode cX1_isAllHome 53 = .ok (.iconst 0, 1) := by decide +kernel
theorem dX1_isAllHome_54 : decode cX1_isAllHome 54 = .ok (.istore_n 2, 1) := by decide +kernel
theorem dX1_isAllHome_55 : decode cX1_isAllHome 55 = .ok (.iload_n 2, 1) := by decide +kernel
theorem dX1_isAllHome_56 : decode cX1_isAllHome 56 = .ok (.aload_n 0, 1) := by decide +kernel
theorem dX1_isAllHome_57 : decode cX1_isAllHome 57 = .ok (.getfield 33, 3) := by decide +kernel
theorem dX1_isAllHome_60 : decode cX1_isAllHome 60 = .ok (.if_icmp .ge 27, 3) := by decide +kernel
theorem dX1_isAllHome_63 : decode cX1_isAllHome 63 = .ok (.iload_n 1, 1) := by decide +kernel
theorem dX1_isAllHome_64 : decode cX1_isAllHome 64 = .ok (.ifCond .eq 15, 3) := by decide +kernel
theorem dX1_isAllHome_67 : decode cX1_isAllHome 67 = .ok (.aload_n 0, 1) := by decide +kernel
theorem dX1_isAllHome_68 : decode cX1_isAllHome 68 = .ok (.iload_n 2, 1) := by decide +kernel
theorem dX1_isAllHome_69 : decode cX1_isAllHome 69 = .ok (.invokevirtual 85, 3) := by decide +kernel
theorem dX1_isAllHome_72 : decode cX1_isAllHome 72 = .ok (.ifCond .ne 7, 3) := by decide +kernel
theorem dX1_isAllHome_75 : decode cX1_isAllHome 75 = .ok (.iconst 1, 1) := by decide +kernel
theorem dX1_isAllHome_76 : decode cX1_isAllHome 76 = .ok (.goto 4, 3) := by decide +kernel
theorem dX1_isAllHome_79 : decode cX1_isAllHome 79 = .ok (.iconst 0, 1) := by decide +kernel
theorem dX1_isAllHome_80 : decode cX1_isAllHome 80 = .ok (.istore_n 1, 1) := by decide +kernel
theorem dX1_isAllHome_81 : decode cX1_isAllHome 81 = .ok (.iinc 2 1, 3) := by decide +kernel
theorem dX1_isAllHome_84 : decode cX1_isAllHome 84 = .ok (.goto (-29), 3) := by decide +kernel
theorem dX1_isAllHome_87 : decode cX1_isAllHome 87 = .ok (.iload_n 1, 1) := by decide +kernel
theorem dX1_isAllHome_88 : decode cX1_isAllHome 88 = .ok (.ireturn, 1) := by decide +kernel
def xX1_isAllHome_80 (k55 : Int32 → Int32 → j_M → Option (Int32 × j_M)) (t : Nat) (l2 : Int32) (s0 : Int32) (M : j_M) : Option (Int32 × j_M) := k55 s0 (l2 + (nI 1)) M
set_option maxRecDepth 20000 in
set_option maxHeartbeats 2000000 in
theorem tX1_isAllHome_80 (k55 : Int32 → Int32 → j_M → Option (Int32 × j_M)) (t : Nat) (hk55 : ∀ (l1 : Int32) (l2 : Int32) (M : j_M), J (ρ := Int32 × j_M) yX1_isAllHome cX1_isAllHome 3 (some .boolean) 2 41 j_ei 55 [(0, .inr (10, 0, t)), (1, .inl (l1)), (2, .inl (l2))] [] M (k55 l1 l2 M)) (l2 : Int32) (s0 : Int32) (M : j_M) : J (ρ := Int32 × j_M) yX1_isAllHome cX1_isAllHome 3 (some .boolean) 2 41 j_ei 80 [(0, .inr (10, 0, t)), (2, .inl (l2))] [.inl (s0)] M (xX1_isAllHome_80 k55 t l2 s0 M) := by
  unfold xX1_isAllHome_80
  refine K_istore_n (q := 81) (ll' := [(1, .inl (s0)), (0, .inr (10, 0, t)), (2, .inl (l2))]) dX1_isAllHome_80 rfl (by decide) rfl rfl ?_
  refine K_iinc (q := 84) (v := l2 + (nI 1)) (ll' := [(2, .inl (l2 + (nI 1))), (1, .inl (s0)), (0, .inr (10, 0, t))]) 2 dX1_isAllHome_81 rfl rfl (by decide) rfl rfl ?_
  refine J_goto (tgt := 55) dX1_isAllHome_84 rfl ?_
  exact J_sub [2, 1, 0] (hk55 s0 (l2 + (nI 1)) M) rfl
def xX1_isAllHome_79 (k55 : Int32 → Int32 → j_M → Option (Int32 × j_M)) (t : Nat) (l2 : Int32) (M : j_M) : Option (Int32 × j_M) := xX1_isAllHome_80 k55 t l2 (nI 0) M
set_option maxRecDepth 20000 in
set_option maxHeartbeats 2000000 in
theorem tX1_isAllHome_79 (k55 : Int32 → Int32 → j_M → Option (Int32 × j_M)) (t : Nat) (hk55 : ∀ (l1 : Int32) (l2 : Int32) (M : j_M), J (ρ := Int32 × j_M) yX1_isAllHome cX1_isAllHome 3 (some .boolean) 2 41 j_ei 55 [(0, .inr (10, 0, t)), (1, .inl (l1)), (2, .inl (l2))] [] M (k55 l1 l2 M)) (l2 : Int32) (M : j_M) : J (ρ := Int32 × j_M) yX1_isAllHome cX1_isAllHome 3 (some .boolean) 2 41 j_ei 79 [(0, .inr (10, 0, t)), (2, .inl (l2))] [] M (xX1_isAllHome_79 k55 t l2 M) := by
  unfold xX1_isAllHome_79
  refine K_iconst (q := 80) (v := nI 0) dX1_isAllHome_79 rfl rfl ?_
  exact J_sub [0, 1] (tX1_isAllHome_80 k55 t hk55 l2 (nI 0) M) rfl
def xX1_isAllHome_55  (t : Nat) : Nat → Int32 → Int32 → j_M → Option (Int32 × j_M)
  | 0, _, _, _ => none
  | n + 1, l1, l2, M => oli (M t 9) fun v1 => (if v1 ≤ l2 then gz l1 (some (l1, M)) else (if l1 = (0 : Int32) then xX1_isAllHome_79 (xX1_isAllHome_55 t n) t l2 M else obi (xX1_missOf t l2 M) fun v3 M2 => (if v3 = (0 : Int32) then xX1_isAllHome_80 (xX1_isAllHome_55 t n) t l2 (nI 1) M2 else xX1_isAllHome_79 (xX1_isAllHome_55 t n) t l2 M2)))
set_option maxRecDepth 20000 in
set_option maxHeartbeats 2000000 in
theorem tX1_isAllHome_55  (t : Nat)  : ∀ (n : Nat) (l1 : Int32) (l2 : Int32) (M : j_M), J (ρ := Int32 × j_M) yX1_isAllHome cX1_isAllHome 3 (some .boolean) 2 41 j_ei 55 [(0, .inr (10, 0, t)), (1, .inl (l1)), (2, .inl (l2))] [] M (xX1_isAllHome_55 t n l1 l2 M) := by
  intro n
  induction n with
  | zero => intros; exact J_none
  | succ n ih =>
    intro l1 l2 M
    rw [xX1_isAllHome_55.eq_2]
    refine K_iload_n (q := 56) 2 dX1_isAllHome_55 rfl rfl rfl ?_
    refine K_aload_n (q := 57) 0 dX1_isAllHome_56 rfl rfl rfl ?_
    refine K_getI (q := 60) (ci := 0) 9 dX1_isAllHome_57 fRX1_33 rfl rfl rfl (fun v1 => ?_)
    refine K_icmp_ge (q := 63) (tgt := 87) dX1_isAllHome_60 rfl ?_ rfl ?_
    · refine K_iload_n (q := 88) 1 dX1_isAllHome_87 rfl rfl rfl ?_
      exact J_zretG dX1_isAllHome_88
    · refine K_iload_n (q := 64) 1 dX1_isAllHome_63 rfl rfl rfl ?_
      refine K_if_eq (q := 67) (tgt := 79) dX1_isAllHome_64 rfl ?_ rfl ?_
      · exact J_sub [0, 2] (tX1_isAllHome_79 (xX1_isAllHome_55 t n) t ih l2 M) rfl
      · refine K_aload_n (q := 68) 0 dX1_isAllHome_67 rfl rfl rfl ?_
        refine K_iload_n (q := 69) 2 dX1_isAllHome_68 rfl rfl rfl ?_
        refine K_cvi (q := 72) [.inl (l2)] dX1_isAllHome_69 cb_X1_missOf cvRX1_85 rc_0 (show (10 : Nat) ≠ 0 by decide) rfl (Nat.le_of_ble_eq_true rfl) ⟨by decide, by decide⟩ (Nat.le_of_ble_eq_true rfl) rfl (tX1_missOf t l2 M) rfl (fun v3 M2 => ?_)
        refine K_if_ne (q := 75) (tgt := 79) dX1_isAllHome_72 rfl ?_ rfl ?_
        · exact J_sub [0, 2] (tX1_isAllHome_79 (xX1_isAllHome_55 t n) t ih l2 M2) rfl
        · refine K_iconst (q := 76) (v := nI 1) dX1_isAllHome_75 rfl rfl ?_
          refine J_goto (tgt := 80) dX1_isAllHome_76 rfl ?_
          exact J_sub [0, 2] (tX1_isAllHome_80 (xX1_isAllHome_55 t n) t ih l2 (nI 1) M2) rfl
def xX1_isAllHome_46 (k15 : Int32 → Int32 → j_M → Option (Int32 × j_M)) (t : Nat) (l2 : Int32) (s0 : Int32) (M : j_M) : Option (Int32 × j_M) := k15 s0 (l2 + (nI 1)) M
set_option maxRecDepth 20000 in
set_option maxHeartbeats 2000000 in
theorem tX1_isAllHome_46 (k15 : Int32 → Int32 → j_M → Option (Int32 × j_M)) (t : Nat) (hk15 : ∀ (l1 : Int32) (l2 : Int32) (M : j_M), J (ρ := Int32 × j_M) yX1_isAllHome cX1_isAllHome 3 (some .boolean) 2 41 j_ei 15 [(0, .inr (10, 0, t)), (1, .inl (l1)), (2, .inl (l2))] [] M (k15 l1 l2 M)) (l2 : Int32) (s0 : Int32) (M : j_M) : J (ρ := Int32 × j_M) yX1_isAllHome cX1_isAllHome 3 (some .boolean) 2 41 j_ei 46 [(0, .inr (10, 0, t)), (2, .inl (l2))] [.inl (s0)] M (xX1_isAllHome_46 k15 t l2 s0 M) := by
  unfold xX1_isAllHome_46
  refine K_istore_n (q := 47) (ll' := [(1, .inl (s0)), (0, .inr (10, 0, t)), (2, .inl (l2))]) dX1_isAllHome_46 rfl (by decide) rfl rfl ?_
  refine K_iinc (q := 50) (v := l2 + (nI 1)) (ll' := [(2, .inl (l2 + (nI 1))), (1, .inl (s0)), (0, .inr (10, 0, t))]) 2 dX1_isAllHome_47 rfl rfl (by decide) rfl rfl ?_
  refine J_goto (tgt := 15) dX1_isAllHome_50 rfl ?_
  exact J_sub [2, 1, 0] (hk15 s0 (l2 + (nI 1)) M) rfl
def xX1_isAllHome_45 (k15 : Int32 → Int32 → j_M → Option (Int32 × j_M)) (t : Nat) (l2 : Int32) (M : j_M) : Option (Int32 × j_M) := xX1_isAllHome_46 k15 t l2 (nI 0) M
set_option maxRecDepth 20000 in
set_option maxHeartbeats 2000000 in
theorem tX1_isAllHome_45 (k15 : Int32 → Int32 → j_M → Option (Int32 × j_M)) (t : Nat) (hk15 : ∀ (l1 : Int32) (l2 : Int32) (M : j_M), J (ρ := Int32 × j_M) yX1_isAllHome cX1_isAllHome 3 (some .boolean) 2 41 j_ei 15 [(0, .inr (10, 0, t)), (1, .inl (l1)), (2, .inl (l2))] [] M (k15 l1 l2 M)) (l2 : Int32) (M : j_M) : J (ρ := Int32 × j_M) yX1_isAllHome cX1_isAllHome 3 (some .boolean) 2 41 j_ei 45 [(0, .inr (10, 0, t)), (2, .inl (l2))] [] M (xX1_isAllHome_45 k15 t l2 M) := by
  unfold xX1_isAllHome_45
  refine K_iconst (q := 46) (v := nI 0) dX1_isAllHome_45 rfl rfl ?_
  exact J_sub [0, 1] (tX1_isAllHome_46 k15 t hk15 l2 (nI 0) M) rfl
def xX1_isAllHome_15  (t : Nat) : Nat → Int32 → Int32 → j_M → Option (Int32 × j_M)
  | 0, _, _, _ => none
  | n + 1, l1, l2, M => (if (nI 8) ≤ l2 then xX1_isAllHome_55 t fu l1 (nI 0) M else (if l1 = (0 : Int32) then xX1_isAllHome_45 (xX1_isAllHome_15 t n) t l2 M else gd l2 112 (oli (M (t + 1) (ix l2)) fun v1 => obi (xX3_count v1 M) fun v3 M2 => oli (M2 t 10) fun v4 => (if v3 = v4 then xX1_isAllHome_46 (xX1_isAllHome_15 t n) t l2 (nI 1) M2 else xX1_isAllHome_45 (xX1_isAllHome_15 t n) t l2 M2))))
set_option maxRecDepth 20000 in
set_option maxHeartbeats 2000000 in
theorem tX1_isAllHome_15  (t : Nat)  : ∀ (n : Nat) (l1 : Int32) (l2 : Int32) (M : j_M), J (ρ := Int32 × j_M) yX1_isAllHome cX1_isAllHome 3 (some .boolean) 2 41 j_ei 15 [(0, .inr (10, 0, t)), (1, .inl (l1)), (2, .inl (l2))] [] M (xX1_isAllHome_15 t n l1 l2 M) := by
  intro n
  induction n with
  | zero => intros; exact J_none
  | succ n ih =>
    intro l1 l2 M
    rw [xX1_isAllHome_15.eq_2]
    refine K_iload_n (q := 16) 2 dX1_isAllHome_15 rfl rfl rfl ?_
    refine K_bipush (q := 18) (v := nI 8) dX1_isAllHome_16 rfl rfl ?_
    refine K_icmp_ge (q := 21) (tgt := 53) dX1_isAllHome_18 rfl ?_ rfl ?_
    · refine K_iconst (q := 54) (v := nI 0) dX1_isAllHome_53 rfl rfl ?_
      refine K_istore_n (q := 55) (ll' := [(2, .inl ((nI 0))), (0, .inr (10, 0, t)), (1, .inl (l1))]) dX1_isAllHome_54 rfl (by decide) rfl rfl ?_
      exact J_sub [1, 2, 0] (tX1_isAllHome_55 t fu l1 (nI 0) M) rfl
    · refine K_iload_n (q := 22) 1 dX1_isAllHome_21 rfl rfl rfl ?_
      refine K_if_eq (q := 25) (tgt := 45) dX1_isAllHome_22 rfl ?_ rfl ?_
      · exact J_sub [0, 2] (tX1_isAllHome_45 (xX1_isAllHome_15 t n) t ih l2 M) rfl
      · refine K_aload_n (q := 26) 0 dX1_isAllHome_25 rfl rfl rfl ?_
        refine K_getR (q := 29) (ci := 0) (a2 := t + 1) 1 dX1_isAllHome_26 fRX1_11 rfl rfl (by decide) rfl rfl ?_
        refine K_iload_n (q := 30) 2 dX1_isAllHome_29 rfl rfl rfl ?_
        refine K_iald (q := 31) dX1_isAllHome_30 rfl (fun v1 => ?_)
        refine K_csi (q := 34) [.inl (v1)] dX1_isAllHome_31 cb_X3_count cvRX1_82 rfl (Nat.le_of_ble_eq_true rfl) ⟨by decide, by decide⟩ (Nat.le_of_ble_eq_true rfl) rfl (tX3_count v1 M) rfl (fun v3 M2 => ?_)
        refine K_aload_n (q := 35) 0 dX1_isAllHome_34 rfl rfl rfl ?_
        refine K_getI (q := 38) (ci := 0) 10 dX1_isAllHome_35 fRX1_37 rfl rfl rfl (fun v4 => ?_)
        refine K_icmp_ne (q := 41) (tgt := 45) dX1_isAllHome_38 rfl ?_ rfl ?_
        · exact J_sub [0, 2] (tX1_isAllHome_45 (xX1_isAllHome_15 t n) t ih l2 M2) rfl
        · refine K_iconst (q := 42) (v := nI 1) dX1_isAllHome_41 rfl rfl ?_
          refine J_goto (tgt := 46) dX1_isAllHome_42 rfl ?_
          exact J_sub [0, 2] (tX1_isAllHome_46 (xX1_isAllHome_15 t n) t ih l2 (nI 1) M2) rfl
def xX1_isAllHome_12  (t : Nat) (s0 : Int32) (M : j_M) : Option (Int32 × j_M) := xX1_isAllHome_15 t fu s0 (nI 0) M
set_option maxRecDepth 20000 in
set_option maxHeartbeats 2000000 in
theorem tX1_isAllHome_12  (t : Nat)  (s0 : Int32) (M : j_M) : J (ρ := Int32 × j_M) yX1_isAllHome cX1_isAllHome 3 (some .boolean) 2 41 j_ei 12 [(0, .inr (10, 0, t))] [.inl (s0)] M (xX1_isAllHome_12 t s0 M) := by
  unfold xX1_isAllHome_12
  refine K_istore_n (q := 13) (ll' := [(1, .inl (s0)), (0, .inr (10, 0, t))]) dX1_isAllHome_12 rfl (by decide) rfl rfl ?_
  refine K_iconst (q := 14) (v := nI 0) dX1_isAllHome_13 rfl rfl ?_
  refine K_istore_n (q := 15) (ll' := [(2, .inl ((nI 0))), (1, .inl (s0)), (0, .inr (10, 0, t))]) dX1_isAllHome_14 rfl (by decide) rfl rfl ?_
  exact J_sub [2, 1, 0] (tX1_isAllHome_15 t fu s0 (nI 0) M) rfl
def xX1_isAllHome (t : Nat)  (M : j_M) : Option (Int32 × j_M) := oli (M t 8) fun v1 => (if v1 = (0 : Int32) then xX1_isAllHome_12 t (nI 1) M else xX1_isAllHome_12 t (nI 0) M)
set_option maxRecDepth 20000 in
set_option maxHeartbeats 2000000 in
theorem tX1_isAllHome (t : Nat)  (M : j_M) : J (ρ := Int32 × j_M) yX1_isAllHome cX1_isAllHome 3 (some .boolean) 2 41 j_ei 0 [(0, .inr (10, 0, t))] [] M (xX1_isAllHome t  M) := by
  unfold xX1_isAllHome
  refine K_aload_n (q := 1) 0 dX1_isAllHome_0 rfl rfl rfl ?_
  refine K_getI (q := 4) (ci := 0) 8 dX1_isAllHome_1 fRX1_64 rfl rfl rfl (fun v1 => ?_)
  refine K_if_ne (q := 7) (tgt := 11) dX1_isAllHome_4 rfl ?_ rfl ?_
  · refine K_iconst (q := 12) (v := nI 0) dX1_isAllHome_11 rfl rfl ?_
    exact J_sub [0] (tX1_isAllHome_12 t (nI 0) M) rfl
  · refine K_iconst (q := 8) (v := nI 1) dX1_isAllHome_7 rfl rfl ?_
    refine J_goto (tgt := 12) dX1_isAllHome_8 rfl ?_
    exact J_sub [0] (tX1_isAllHome_12 t (nI 1) M) rfl
theorem dX1_setCpus_0 : decode cX1_setCpus 0 = .ok (.iload_n 1, 1) := by decide +kernel
theorem dX1_setCpus_1 : decode cX1_setCpus 1 = .ok (.iconst 2, 1) := by decide +kernel
theorem dX1_setCpus_2 : decode cX1_setCpus 2 = .ok (.if_icmp .lt 24, 3) := by decide +kernel
theorem dX1_setCpus_5 : decode cX1_setCpus 5 = .ok (.iload_n 1, 1) := by decide +kernel
theorem dX1_setCpus_6 : decode cX1_setCpus 6 = .ok (.bipush 6, 2) := by decide +kernel
theorem dX1_setCpus_8 : decode cX1_setCpus 8 = .ok (.if_icmp .gt 18, 3) := by decide +kernel
theorem dX1_setCpus_11 : decode cX1_setCpus 11 = .ok (.iload_n 1, 1) := by decide +kernel
theorem dX1_setCpus_12 : decode cX1_setCpus 12 = .ok (.aload_n 0, 1) := by decide +kernel
theorem dX1_setCpus_13 : decode cX1_setCpus 13 = .ok (.getfield 37, 3) := by decide +kernel
theorem dX1_setCpus_16 : decode cX1_setCpus 16 = .ok (.if_icmp .gt 10, 3) := by decide +kernel
theorem dX1_setCpus_19 : decode cX1_setCpus 19 = .ok (.aload_n 0, 1) := by decide +kernel
theorem dX1_setCpus_20 : decode cX1_setCpus 20 = .ok (.invokevirtual 88, 3) := by decide +kernel
theorem dX1_setCpus_23 : decode cX1_setCpus 23 = .ok (.ifCond .ne 5, 3) := by decide +kernel
theorem dX1_setCpus_26 : decode cX1_setCpus 26 = .ok (.iconst 0, 1) := by decide +kernel
theorem dX1_setCpus_27 : decode cX1_setCpus 27 = .ok (.ireturn, 1) := by decide +kernel
theorem dX1_setCpus_28 : decode cX1_setCpus 28 = .ok (.aload_n 0, 1) := by decide +kernel
theorem dX1_setCpus_29 : decode cX1_setCpus 29 = .ok (.iload_n 1, 1) := by decide +kernel
theorem dX1_setCpus_30 : decode cX1_setCpus 30 = .ok (.putfield 33, 3) := by decide +kernel
theorem dX1_setCpus_33 : decode cX1_setCpus 33 = .ok (.iconst 1, 1) := by decide +kernel
theorem dX1_setCpus_34 : decode cX1_setCpus 34 = .ok (.ireturn, 1) := by decide +kernel
def xX1_setCpus (t : Nat) (l1 : Int32) (M : j_M) : Option (Int32 × j_M) := (if l1 < (nI 2) then some ((nI 0), M) else (if (nI 6) < l1 then some ((nI 0), M) else oli (M t 10) fun v1 => (if v1 < l1 then some ((nI 0), M) else obi (xX1_isAllHome t M) fun v3 M2 => (if v3 = (0 : Int32) then some ((nI 0), M2) else oml (mw M2 t 9 l1) fun M4 => some ((nI 1), M4)))))
set_option maxRecDepth 20000 in
set_option maxHeartbeats 2000000 in
theorem tX1_setCpus (t : Nat) (l1 : Int32) (M : j_M) : J (ρ := Int32 × j_M) yX1_setCpus cX1_setCpus 2 (some .boolean) 3 63 j_ei 0 [(0, .inr (10, 0, t)), (1, .inl (l1))] [] M (xX1_setCpus t l1 M) := by
  unfold xX1_setCpus
  refine K_iload_n (q := 1) 1 dX1_setCpus_0 rfl rfl rfl ?_
  refine K_iconst (q := 2) (v := nI 2) dX1_setCpus_1 rfl rfl ?_
  refine K_icmp_lt (q := 5) (tgt := 26) dX1_setCpus_2 rfl ?_ rfl ?_
  · refine K_iconst (q := 27) (v := nI 0) dX1_setCpus_26 rfl rfl ?_
    exact J_zret dX1_setCpus_27 (by decide)
  · refine K_iload_n (q := 6) 1 dX1_setCpus_5 rfl rfl rfl ?_
    refine K_bipush (q := 8) (v := nI 6) dX1_setCpus_6 rfl rfl ?_
    refine K_icmp_gt (q := 11) (tgt := 26) dX1_setCpus_8 rfl ?_ rfl ?_
    · refine K_iconst (q := 27) (v := nI 0) dX1_setCpus_26 rfl rfl ?_
      exact J_zret dX1_setCpus_27 (by decide)
    · refine K_iload_n (q := 12) 1 dX1_setCpus_11 rfl rfl rfl ?_
      refine K_aload_n (q := 13) 0 dX1_setCpus_12 rfl rfl rfl ?_
      refine K_getI (q := 16) (ci := 0) 10 dX1_setCpus_13 fRX1_37 rfl rfl rfl (fun v1 => ?_)
      refine K_icmp_gt (q := 19) (tgt := 26) dX1_setCpus_16 rfl ?_ rfl ?_
      · refine K_iconst (q := 27) (v := nI 0) dX1_setCpus_26 rfl rfl ?_
        exact J_zret dX1_setCpus_27 (by decide)
      · refine K_aload_n (q := 20) 0 dX1_setCpus_19 rfl rfl rfl ?_
        refine K_cvi (q := 23) [] dX1_setCpus_20 cb_X1_isAllHome cvRX1_88 rc_0 (show (10 : Nat) ≠ 0 by decide) rfl (Nat.le_of_ble_eq_true rfl) ⟨by decide, by decide⟩ (Nat.le_of_ble_eq_true rfl) rfl (tX1_isAllHome t M) rfl (fun v3 M2 => ?_)
        refine K_if_ne (q := 26) (tgt := 28) dX1_setCpus_23 rfl ?_ rfl ?_
        · refine K_aload_n (q := 29) 0 dX1_setCpus_28 rfl rfl rfl ?_
          refine K_iload_n (q := 30) 1 dX1_setCpus_29 rfl rfl rfl ?_
          refine K_putI (q := 33) (ci := 0) 9 dX1_setCpus_30 fRX1_33 fp_0_9 rfl rfl (by decide) rfl (fun M4 => ?_)
          refine K_iconst (q := 34) (v := nI 1) dX1_setCpus_33 rfl rfl ?_
          exact J_zret dX1_setCpus_34 (by decide)
        · refine K_iconst (q := 27) (v := nI 0) dX1_setCpus_26 rfl rfl ?_
          exact J_zret dX1_setCpus_27 (by decide)
theorem dX1_setPatience_0 : decode cX1_setPatience 0 = .ok (.iload_n 1, 1) := by decide +kernel
theorem dX1_setPatience_1 : decode cX1_setPatience 1 = .ok (.iconst 1, 1) := by decide +kernel
theorem dX1_setPatience_2 : decode cX1_setPatience 2 = .ok (.if_icmp .lt 9, 3) := by decide +kernel
theorem dX1_setPatience_5 : decode cX1_setPatience 5 = .ok (.iload_n 1, 1) := by decide +kernel
theorem dX1_setPatience_6 : decode cX1_setPatience 6 = .ok (.bipush 20, 2) := by decide +kernel
theorem dX1_setPatience_8 : decode cX1_setPatience 8 = .ok (.if_icmp .le 5, 3) := by decide +kernel
theorem dX1_setPatience_11 : decode cX1_setPatience 11 = .ok (.iconst 0, 1) := by decide +kernel
theorem dX1_setPatience_12 : decode cX1_setPatience 12 = .ok (.ireturn, 1) := by decide +kernel
theorem dX1_setPatience_13 : decode cX1_setPatience 13 = .ok (.aload_n 0, 1) := by decide +kernel
theorem dX1_setPatience_14 : decode cX1_setPatience 14 = .ok (.iload_n 1, 1) := by decide +kernel
theorem dX1_setPatience_15 : decode cX1_setPatience 15 = .ok (.putfield 43, 3) := by decide +kernel
theorem dX1_setPatience_18 : decode cX1_setPatience 18 = .ok (.iconst 1, 1) := by decide +kernel
theorem dX1_setPatience_19 : decode cX1_setPatience 19 = .ok (.ireturn, 1) := by decide +kernel
def xX1_setPatience (t : Nat) (l1 : Int32) (M : j_M) : Option (Int32 × j_M) := (if l1 < (nI 1) then some ((nI 0), M) else (if l1 ≤ (nI 20) then oml (mw M t 13 l1) fun M1 => some ((nI 1), M1) else some ((nI 0), M)))
set_option maxRecDepth 20000 in
set_option maxHeartbeats 2000000 in
theorem tX1_setPatience (t : Nat) (l1 : Int32) (M : j_M) : J (ρ := Int32 × j_M) yX1_setPatience cX1_setPatience 2 (some .boolean) 0 0 j_ei 0 [(0, .inr (10, 0, t)), (1, .inl (l1))] [] M (xX1_setPatience t l1 M) := by
  unfold xX1_setPatience
  refine K_iload_n (q := 1) 1 dX1_setPatience_0 rfl rfl rfl ?_
  refine K_iconst (q := 2) (v := nI 1) dX1_setPatience_1 rfl rfl ?_
  refine K_icmp_lt (q := 5) (tgt := 11) dX1_setPatience_2 rfl ?_ rfl ?_
  · refine K_iconst (q := 12) (v := nI 0) dX1_setPatience_11 rfl rfl ?_
    exact J_zret dX1_setPatience_12 (by decide)
  · refine K_iload_n (q := 6) 1 dX1_setPatience_5 rfl rfl rfl ?_
    refine K_bipush (q := 8) (v := nI 20) dX1_setPatience_6 rfl rfl ?_
    refine K_icmp_le (q := 11) (tgt := 13) dX1_setPatience_8 rfl ?_ rfl ?_
    · refine K_aload_n (q := 14) 0 dX1_setPatience_13 rfl rfl rfl ?_
      refine K_iload_n (q := 15) 1 dX1_setPatience_14 rfl rfl rfl ?_
      refine K_putI (q := 18) (ci := 0) 13 dX1_setPatience_15 fRX1_43 fp_0_13 rfl rfl (by decide) rfl (fun M1 => ?_)
      refine K_iconst (q := 19) (v := nI 1) dX1_setPatience_18 rfl rfl ?_
      exact J_zret dX1_setPatience_19 (by decide)
    · refine K_iconst (q := 12) (v := nI 0) dX1_setPatience_11 rfl rfl ?_
      exact J_zret dX1_setPatience_12 (by decide)
theorem dX1_setRoom_0 : decode cX1_setRoom 0 = .ok (.iload_n 1, 1) := by decide +kernel
theorem dX1_setRoom_1 : decode cX1_setRoom 1 = .ok (.iconst 1, 1) := by decide +kernel
theorem dX1_setRoom_2 : decode cX1_setRoom 2 = .ok (.if_icmp .lt 9, 3) := by decide +kernel
theorem dX1_setRoom_5 : decode cX1_setRoom 5 = .ok (.iload_n 1, 1) := by decide +kernel
theorem dX1_setRoom_6 : decode cX1_setRoom 6 = .ok (.bipush 8, 2) := by decide +kernel
theorem dX1_setRoom_8 : decode cX1_setRoom 8 = .ok (.if_icmp .le 5, 3) := by decide +kernel
theorem dX1_setRoom_11 : decode cX1_setRoom 11 = .ok (.iconst 0, 1) := by decide +kernel
theorem dX1_setRoom_12 : decode cX1_setRoom 12 = .ok (.ireturn, 1) := by decide +kernel
theorem dX1_setRoom_13 : decode cX1_setRoom 13 = .ok (.aload_n 0, 1) := by decide +kernel
theorem dX1_setRoom_14 : decode cX1_setRoom 14 = .ok (.iload_n 1, 1) := by decide +kernel
theorem dX1_setRoom_15 : decode cX1_setRoom 15 = .ok (.putfield 40, 3) := by decide +kernel
theorem dX1_setRoom_18 : decode cX1_setRoom 18 = .ok (.iconst 1, 1) := by decide +kernel
theorem dX1_setRoom_19 : decode cX1_setRoom 19 = .ok (.ireturn, 1) := by decide +kernel
def xX1_setRoom (t : Nat) (l1 : Int32) (M : j_M) : Option (Int32 × j_M) := (if l1 < (nI 1) then some ((nI 0), M) else (if l1 ≤ (nI 8) then oml (mw M t 11 l1) fun M1 => some ((nI 1), M1) else some ((nI 0), M)))
set_option maxRecDepth 20000 in
set_option maxHeartbeats 2000000 in
theorem tX1_setRoom (t : Nat) (l1 : Int32) (M : j_M) : J (ρ := Int32 × j_M) yX1_setRoom cX1_setRoom 2 (some .boolean) 0 0 j_ei 0 [(0, .inr (10, 0, t)), (1, .inl (l1))] [] M (xX1_setRoom t l1 M) := by
  unfold xX1_setRoom
  refine K_iload_n (q := 1) 1 dX1_setRoom_0 rfl rfl rfl ?_
  refine K_iconst (q := 2) (v := nI 1) dX1_setRoom_1 rfl rfl ?_
  refine K_icmp_lt (q := 5) (tgt := 11) dX1_setRoom_2 rfl ?_ rfl ?_
  · refine K_iconst (q := 12) (v := nI 0) dX1_setRoom_11 rfl rfl ?_
    exact J_zret dX1_setRoom_12 (by decide)
  · refine K_iload_n (q := 6) 1 dX1_setRoom_5 rfl rfl rfl ?_
    refine K_bipush (q := 8) (v := nI 8) dX1_setRoom_6 rfl rfl ?_
    refine K_icmp_le (q := 11) (tgt := 13) dX1_setRoom_8 rfl ?_ rfl ?_
    · refine K_aload_n (q := 14) 0 dX1_setRoom_13 rfl rfl rfl ?_
      refine K_iload_n (q := 15) 1 dX1_setRoom_14 rfl rfl rfl ?_
      refine K_putI (q := 18) (ci := 0) 11 dX1_setRoom_15 fRX1_40 fp_0_11 rfl rfl (by decide) rfl (fun M1 => ?_)
      refine K_iconst (q := 19) (v := nI 1) dX1_setRoom_18 rfl rfl ?_
      exact J_zret dX1_setRoom_19 (by decide)
    · refine K_iconst (q := 12) (v := nI 0) dX1_setRoom_11 rfl rfl ?_
      exact J_zret dX1_setRoom_12 (by decide)
theorem dX1_setTokens_0 : decode cX1_setTokens 0 = .ok (.iload_n 1, 1) := by decide +kernel
theorem dX1_setTokens_1 : decode cX1_setTokens 1 = .ok (.aload_n 0, 1) := by decide +kernel
theorem dX1_setTokens_2 : decode cX1_setTokens 2 = .ok (.getfield 33, 3) := by decide +kernel
theorem dX1_setTokens_5 : decode cX1_setTokens 5 = .ok (.if_icmp .lt 16, 3) := by decide +kernel
theorem dX1_setTokens_8 : decode cX1_setTokens 8 = .ok (.iload_n 1, 1) := by decide +kernel
theorem dX1_setTokens_9 : decode cX1_setTokens 9 = .ok (.bipush 12, 2) := by decide +kernel
theorem dX1_setTokens_11 : decode cX1_setTokens 11 = .ok (.if_icmp .gt 10, 3) := by decide +kernel
theorem dX1_setTokens_14 : decode cX1_setTokens 14 = .ok (.aload_n 0, 1) := by decide +kernel
theorem dX1_setTokens_15 : decode cX1_setTokens 15 = .ok (.invokevirtual 88, 3) := by decide +kernel
theorem dX1_setTokens_18 : decode cX1_setTokens 18 = .ok (.ifCond .ne 5, 3) := by decide +kernel
theorem dX1_setTokens_21 : decode cX1_setTokens 21 = .ok (.iconst 0, 1) := by decide +kernel
theorem dX1_setTokens_22 : decode cX1_setTokens 22 = .ok (.ireturn, 1) := by decide +kernel
theorem dX1_setTokens_23 : decode cX1_setTokens 23 = .ok (.iconst 0, 1) := by decide +kernel
theorem dX1_setTokens_24 : decode cX1_setTokens 24 = .ok (.istore_n 2, 1) := by decide +kernel
theorem dX1_setTokens_25 : decode cX1_setTokens 25 = .ok (.iload_n 2, 1) := by decide +kernel
theorem dX1_setTokens_26 : decode cX1_setTokens 26 = .ok (.bipush 8, 2) := by decide +kernel
theorem dX1_setTokens_28 : decode cX1_setTokens 28 = .ok (.if_icmp .ge 24, 3) := by decide +kernel
theorem dX1_setTokens_31 : decode cX1_setTokens 31 = .ok (.aload_n 0, 1) := by decide +kernel
theorem dX1_setTokens_32 : decode cX1_setTokens 32 = .ok (.getfield 11, 3) := by decide +kernel
theorem dX1_setTokens_35 : decode cX1_setTokens 35 = .ok (.iload_n 2, 1) := by decide +kernel
theorem dX1_setTokens_36 : decode cX1_setTokens 36 = .ok (.dup2, 1) := by decide +kernel
theorem dX1_setTokens_37 : decode cX1_setTokens 37 = .ok (.iaload, 1) := by decide +kernel
theorem dX1_setTokens_38 : decode cX1_setTokens 38 = .ok (.iload_n 1, 1) := by decide +kernel
theorem dX1_setTokens_39 : decode cX1_setTokens 39 = .ok (.aload_n 0, 1) := by decide +kernel
theorem dX1_setTokens_40 : decode cX1_setTokens 40 = .ok (.getfield 37, 3) := by decide +kernel
theorem dX1_setTokens_43 : decode cX1_setTokens 43 = .ok (.isub, 1) := by decide +kernel
theorem dX1_setTokens_44 : decode cX1_setTokens 44 = .ok (.iadd, 1) := by decide +kernel
theorem dX1_setTokens_45 : decode cX1_setTokens 45 = .ok (.iastore, 1) := by decide +kernel
theorem dX1_setTokens_46 : decode cX1_setTokens 46 = .ok (.iinc 2 1, 3) := by decide +kernel
theorem dX1_setTokens_49 : decode cX1_setTokens 49 = .ok (.goto (-24), 3) := by decide +kernel
theorem dX1_setTokens_52 : decode cX1_setTokens 52 = .ok (.aload_n 0, 1) := by decide +kernel
theorem dX1_setTokens_53 : decode cX1_setTokens 53 = .ok (.iload_n 1, 1) := by decide +kernel
theorem dX1_setTokens_54 : decode cX1_setTokens 54 = .ok (.putfield 37, 3) := by decide +kernel
theorem dX1_setTokens_57 : decode cX1_setTokens 57 = .ok (.iconst 1, 1) := by decide +kernel
theorem dX1_setTokens_58 : decode cX1_setTokens 58 = .ok (.ireturn, 1) := by decide +kernel
def xX1_setTokens_25  (t : Nat) : Nat → Int32 → Int32 → j_M → Option (Int32 × j_M)
  | 0, _, _, _ => none
  | n + 1, l1, l2, M => (if (nI 8) ≤ l2 then oml (mw M t 10 l1) fun M1 => some ((nI 1), M1) else gd l2 112 (oli (M (t + 1) (ix l2)) fun v2 => oli (M t 10) fun v3 => gd l2 112 (oml (mw M (t + 1) (ix l2) (v2 + (l1 - v3))) fun M4 => xX1_setTokens_25 t n l1 (l2 + (nI 1)) M4)))
set_option maxRecDepth 20000 in
set_option maxHeartbeats 2000000 in
theorem tX1_setTokens_25  (t : Nat)  : ∀ (n : Nat) (l1 : Int32) (l2 : Int32) (M : j_M), J (ρ := Int32 × j_M) yX1_setTokens cX1_setTokens 3 (some .boolean) 3 63 j_ei 25 [(0, .inr (10, 0, t)), (1, .inl (l1)), (2, .inl (l2))] [] M (xX1_setTokens_25 t n l1 l2 M) := by
  intro n
  induction n with
  | zero => intros; exact J_none
  | succ n ih =>
    intro l1 l2 M
    rw [xX1_setTokens_25.eq_2]
    refine K_iload_n (q := 26) 2 dX1_setTokens_25 rfl rfl rfl ?_
    refine K_bipush (q := 28) (v := nI 8) dX1_setTokens_26 rfl rfl ?_
    refine K_icmp_ge (q := 31) (tgt := 52) dX1_setTokens_28 rfl ?_ rfl ?_
    · refine K_aload_n (q := 53) 0 dX1_setTokens_52 rfl rfl rfl ?_
      refine K_iload_n (q := 54) 1 dX1_setTokens_53 rfl rfl rfl ?_
      refine K_putI (q := 57) (ci := 0) 10 dX1_setTokens_54 fRX1_37 fp_0_10 rfl rfl (by decide) rfl (fun M1 => ?_)
      refine K_iconst (q := 58) (v := nI 1) dX1_setTokens_57 rfl rfl ?_
      exact J_zret dX1_setTokens_58 (by decide)
    · refine K_aload_n (q := 32) 0 dX1_setTokens_31 rfl rfl rfl ?_
      refine K_getR (q := 35) (ci := 0) (a2 := t + 1) 1 dX1_setTokens_32 fRX1_11 rfl rfl (by decide) rfl rfl ?_
      refine K_iload_n (q := 36) 2 dX1_setTokens_35 rfl rfl rfl ?_
      refine K_dup2 (q := 37) dX1_setTokens_36 rfl ?_
      refine K_iald (q := 38) dX1_setTokens_37 rfl (fun v2 => ?_)
      refine K_iload_n (q := 39) 1 dX1_setTokens_38 rfl rfl rfl ?_
      refine K_aload_n (q := 40) 0 dX1_setTokens_39 rfl rfl rfl ?_
      refine K_getI (q := 43) (ci := 0) 10 dX1_setTokens_40 fRX1_37 rfl rfl rfl (fun v3 => ?_)
      refine K_isub (q := 44) dX1_setTokens_43 rfl ?_
      refine K_iadd (q := 45) dX1_setTokens_44 rfl ?_
      refine K_iast (q := 46) dX1_setTokens_45 rfl (fun M4 => ?_)
      refine K_iinc (q := 49) (v := l2 + (nI 1)) (ll' := [(2, .inl (l2 + (nI 1))), (0, .inr (10, 0, t)), (1, .inl (l1))]) 2 dX1_setTokens_46 rfl rfl (by decide) rfl rfl ?_
      refine J_goto (tgt := 25) dX1_setTokens_49 rfl ?_
      exact J_sub [1, 2, 0] (ih l1 (l2 + (nI 1)) M4) rfl
def xX1_setTokens (t : Nat) (l1 : Int32) (M : j_M) : Option (Int32 × j_M) := oli (M t 9) fun v1 => (if l1 < v1 then some ((nI 0), M) else (if (nI 12) < l1 then some ((nI 0), M) else obi (xX1_isAllHome t M) fun v3 M2 => (if v3 = (0 : Int32) then some ((nI 0), M2) else xX1_setTokens_25 t fu l1 (nI 0) M2)))
set_option maxRecDepth 20000 in
set_option maxHeartbeats 2000000 in
theorem tX1_setTokens (t : Nat) (l1 : Int32) (M : j_M) : J (ρ := Int32 × j_M) yX1_setTokens cX1_setTokens 3 (some .boolean) 3 63 j_ei 0 [(0, .inr (10, 0, t)), (1, .inl (l1))] [] M (xX1_setTokens t l1 M) := by
  unfold xX1_setTokens
  refine K_iload_n (q := 1) 1 dX1_setTokens_0 rfl rfl rfl ?_
  refine K_aload_n (q := 2) 0 dX1_setTokens_1 rfl rfl rfl ?_
  refine K_getI (q := 5) (ci := 0) 9 dX1_setTokens_2 fRX1_33 rfl rfl rfl (fun v1 => ?_)
  refine K_icmp_lt (q := 8) (tgt := 21) dX1_setTokens_5 rfl ?_ rfl ?_
  · refine K_iconst (q := 22) (v := nI 0) dX1_setTokens_21 rfl rfl ?_
    exact J_zret dX1_setTokens_22 (by decide)
  · refine K_iload_n (q := 9) 1 dX1_setTokens_8 rfl rfl rfl ?_
    refine K_bipush (q := 11) (v := nI 12) dX1_setTokens_9 rfl rfl ?_
    refine K_icmp_gt (q := 14) (tgt := 21) dX1_setTokens_11 rfl ?_ rfl ?_
    · refine K_iconst (q := 22) (v := nI 0) dX1_setTokens_21 rfl rfl ?_
      exact J_zret dX1_setTokens_22 (by decide)
    · refine K_aload_n (q := 15) 0 dX1_setTokens_14 rfl rfl rfl ?_
      refine K_cvi (q := 18) [] dX1_setTokens_15 cb_X1_isAllHome cvRX1_88 rc_0 (show (10 : Nat) ≠ 0 by decide) rfl (Nat.le_of_ble_eq_true rfl) ⟨by decide, by decide⟩ (Nat.le_of_ble_eq_true rfl) rfl (tX1_isAllHome t M) rfl (fun v3 M2 => ?_)
      refine K_if_ne (q := 21) (tgt := 23) dX1_setTokens_18 rfl ?_ rfl ?_
      · refine K_iconst (q := 24) (v := nI 0) dX1_setTokens_23 rfl rfl ?_
        refine K_istore_n (q := 25) (ll' := [(2, .inl ((nI 0))), (0, .inr (10, 0, t)), (1, .inl (l1))]) dX1_setTokens_24 rfl (by decide) rfl rfl ?_
        exact J_sub [1, 2, 0] (tX1_setTokens_25 t fu l1 (nI 0) M2) rfl
      · refine K_iconst (q := 22) (v := nI 0) dX1_setTokens_21 rfl rfl ?_
        exact J_zret dX1_setTokens_22 (by decide)
