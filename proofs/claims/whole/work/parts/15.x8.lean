theorem ws_in3 : ∀ w ∈ u_ws RX8 TX8 13, w ∈ j_ws := j_in_r _ [365, 367, 369, 371, 373, 375, 377, 379, 381, 383, 385, 387, 389] (by decide +kernel) (by decide +kernel)
theorem fRX8_28 : j_F RX8 28 3 4 := ⟨RX8, TX8, 13, rfl, by decide, ws_in3, j_in 353 (by decide +kernel) (by decide +kernel)⟩
theorem fp_3_4 : j_FP 3 4 .int := ⟨RX8, TX8, 13, tyX8, rfl, tyX8_ok, nmX8, rfl, by decide +kernel⟩
theorem fRX8_11 : j_F RX8 11 3 0 := ⟨RX8, TX8, 13, rfl, by decide, ws_in3, j_in 348 (by decide +kernel) (by decide +kernel)⟩
theorem fRX8_31 : j_F RX8 31 3 5 := ⟨RX8, TX8, 13, rfl, by decide, ws_in3, j_in 355 (by decide +kernel) (by decide +kernel)⟩
theorem fp_3_5 : j_FP 3 5 .int := ⟨RX8, TX8, 13, tyX8, rfl, tyX8_ok, nmX8, rfl, by decide +kernel⟩
theorem fRX8_24 : j_F RX8 24 3 6 := ⟨RX8, TX8, 13, rfl, by decide, ws_in3, j_in 357 (by decide +kernel) (by decide +kernel)⟩
theorem fp_3_6 : j_FP 3 6 .int := ⟨RX8, TX8, 13, tyX8, rfl, tyX8_ok, nmX8, rfl, by decide +kernel⟩
theorem fRX8_58 : j_F RX8 58 3 11 := ⟨RX8, TX8, 13, rfl, by decide, ws_in3, j_in 363 (by decide +kernel) (by decide +kernel)⟩
theorem fp_3_11 : j_FP 3 11 .int := ⟨RX8, TX8, 13, tyX8, rfl, tyX8_ok, nmX8, rfl, by decide +kernel⟩
theorem fRX8_37 : j_F RX8 37 3 9 := ⟨RX8, TX8, 13, rfl, by decide, ws_in3, j_in 361 (by decide +kernel) (by decide +kernel)⟩
theorem cb_X8_isDigit : j_CB yX8_isDigit cX8_isDigit 1 (some .boolean) 1 := ⟨by decide +kernel, j_in 747 (by decide +kernel) (by decide +kernel), j_in 113 (by decide +kernel) (by decide +kernel), by decide +kernel, by decide +kernel, by decide +kernel⟩
theorem cvRX8_106 : j_CS RX8 106 yX8_isDigit := ⟨Or.inl (j_in 745 (by decide +kernel) (by decide +kernel)), j_in 746 (by decide +kernel) (by decide +kernel)⟩
theorem fRX8_34 : j_F RX8 34 3 12 := ⟨RX8, TX8, 13, rfl, by decide, ws_in3, j_in 364 (by decide +kernel) (by decide +kernel)⟩
theorem fp_3_9 : j_FP 3 9 .int := ⟨RX8, TX8, 13, tyX8, rfl, tyX8_ok, nmX8, rfl, by decide +kernel⟩
theorem fRX8_52 : j_F RX8 52 3 10 := ⟨RX8, TX8, 13, rfl, by decide, ws_in3, j_in 362 (by decide +kernel) (by decide +kernel)⟩
theorem fp_3_10 : j_FP 3 10 .int := ⟨RX8, TX8, 13, tyX8, rfl, tyX8_ok, nmX8, rfl, by decide +kernel⟩
theorem cb_X8_isLetter : j_CB yX8_isLetter cX8_isLetter 1 (some .boolean) 1 := ⟨by decide +kernel, j_in 738 (by decide +kernel) (by decide +kernel), j_in 113 (by decide +kernel) (by decide +kernel), by decide +kernel, by decide +kernel, by decide +kernel⟩
theorem cvRX8_99 : j_CS RX8 99 yX8_isLetter := ⟨Or.inl (j_in 736 (by decide +kernel) (by decide +kernel)), j_in 737 (by decide +kernel) (by decide +kernel)⟩
theorem fp_3_12 : j_FP 3 12 .int := ⟨RX8, TX8, 13, tyX8, rfl, tyX8_ok, nmX8, rfl, by decide +kernel⟩
theorem cb_X8_takeDigits : j_CB yX8_takeDigits cX8_takeDigits 1 none 0 := ⟨by decide +kernel, j_in 751 (by decide +kernel) (by decide +kernel), j_in 113 (by decide +kernel) (by decide +kernel), by decide +kernel, by decide +kernel, by decide +kernel⟩
theorem cvRX8_109 : j_CV RX8 109 yX8_takeDigits := ⟨Or.inl (j_in 748 (by decide +kernel) (by decide +kernel)), j_in 750 (by decide +kernel) (by decide +kernel), j_in 3 (by decide +kernel) (by decide +kernel)⟩
theorem cb_X8_takeWord : j_CB yX8_takeWord cX8_takeWord 4 none 0 := ⟨by decide +kernel, j_in 742 (by decide +kernel) (by decide +kernel), j_in 113 (by decide +kernel) (by decide +kernel), by decide +kernel, by decide +kernel, by decide +kernel⟩
theorem cvRX8_103 : j_CV RX8 103 yX8_takeWord := ⟨Or.inl (j_in 739 (by decide +kernel) (by decide +kernel)), j_in 741 (by decide +kernel) (by decide +kernel), j_in 2 (by decide +kernel) (by decide +kernel)⟩
theorem cb_X8_readToken : j_CB yX8_readToken cX8_readToken 2 none 0 := ⟨by decide +kernel, j_in 735 (by decide +kernel) (by decide +kernel), j_in 113 (by decide +kernel) (by decide +kernel), by decide +kernel, by decide +kernel, by decide +kernel⟩
theorem cvRX8_49 : j_CV RX8 49 yX8_readToken := ⟨Or.inl (j_in 732 (by decide +kernel) (by decide +kernel)), j_in 734 (by decide +kernel) (by decide +kernel), j_in 1 (by decide +kernel) (by decide +kernel)⟩
theorem cb_X8_refuse : j_CB yX8_refuse cX8_refuse 2 none 1 := ⟨by decide +kernel, j_in 763 (by decide +kernel) (by decide +kernel), j_in 113 (by decide +kernel) (by decide +kernel), by decide +kernel, by decide +kernel, by decide +kernel⟩
theorem cvRX8_70 : j_CV RX8 70 yX8_refuse := ⟨Or.inl (j_in 760 (by decide +kernel) (by decide +kernel)), j_in 762 (by decide +kernel) (by decide +kernel), j_in 6 (by decide +kernel) (by decide +kernel)⟩
theorem cb_X8_readNumber : j_CB yX8_readNumber cX8_readNumber 3 (some .int) 2 := ⟨by decide +kernel, j_in 767 (by decide +kernel) (by decide +kernel), j_in 113 (by decide +kernel) (by decide +kernel), by decide +kernel, by decide +kernel, by decide +kernel⟩
theorem cvRX8_73 : j_CV RX8 73 yX8_readNumber := ⟨Or.inl (j_in 764 (by decide +kernel) (by decide +kernel)), j_in 766 (by decide +kernel) (by decide +kernel), j_in 7 (by decide +kernel) (by decide +kernel)⟩
theorem cb_X8_expect : j_CB yX8_expect cX8_expect 2 none 1 := ⟨by decide +kernel, j_in 771 (by decide +kernel) (by decide +kernel), j_in 113 (by decide +kernel) (by decide +kernel), by decide +kernel, by decide +kernel, by decide +kernel⟩
theorem cvRX8_77 : j_CV RX8 77 yX8_expect := ⟨Or.inl (j_in 768 (by decide +kernel) (by decide +kernel)), j_in 770 (by decide +kernel) (by decide +kernel), j_in 8 (by decide +kernel) (by decide +kernel)⟩
theorem fRX8_40 : j_F RX8 40 3 7 := ⟨RX8, TX8, 13, rfl, by decide, ws_in3, j_in 359 (by decide +kernel) (by decide +kernel)⟩
theorem fRX8_15 : j_F RX8 15 3 1 := ⟨RX8, TX8, 13, rfl, by decide, ws_in3, j_in 349 (by decide +kernel) (by decide +kernel)⟩
theorem cb_X0_of : j_CB yX0_of cX0_of 3 (some .int) 3 := ⟨by decide +kernel, j_in 784 (by decide +kernel) (by decide +kernel), j_in 121 (by decide +kernel) (by decide +kernel), by decide +kernel, by decide +kernel, by decide +kernel⟩
theorem cvRX8_92 : j_CS RX8 92 yX0_of := ⟨Or.inl (j_in 782 (by decide +kernel) (by decide +kernel)), j_in 783 (by decide +kernel) (by decide +kernel)⟩
theorem cb_X0_withCpu : j_CB yX0_withCpu cX0_withCpu 2 (some .int) 2 := ⟨by decide +kernel, j_in 787 (by decide +kernel) (by decide +kernel), j_in 121 (by decide +kernel) (by decide +kernel), by decide +kernel, by decide +kernel, by decide +kernel⟩
theorem cvRX8_96 : j_CS RX8 96 yX0_withCpu := ⟨Or.inl (j_in 785 (by decide +kernel) (by decide +kernel)), j_in 786 (by decide +kernel) (by decide +kernel)⟩
theorem fp_3_7 : j_FP 3 7 .int := ⟨RX8, TX8, 13, tyX8, rfl, tyX8_ok, nmX8, rfl, by decide +kernel⟩
theorem cb_X8_readAct : j_CB yX8_readAct cX8_readAct 5 none 1 := ⟨by decide +kernel, j_in 775 (by decide +kernel) (by decide +kernel), j_in 113 (by decide +kernel) (by decide +kernel), by decide +kernel, by decide +kernel, by decide +kernel⟩
theorem cvRX8_66 : j_CV RX8 66 yX8_readAct := ⟨Or.inl (j_in 772 (by decide +kernel) (by decide +kernel)), j_in 774 (by decide +kernel) (by decide +kernel), j_in 9 (by decide +kernel) (by decide +kernel)⟩
theorem fRX8_43 : j_F RX8 43 3 8 := ⟨RX8, TX8, 13, rfl, by decide, ws_in3, j_in 360 (by decide +kernel) (by decide +kernel)⟩
theorem fp_3_8 : j_FP 3 8 .int := ⟨RX8, TX8, 13, tyX8, rfl, tyX8_ok, nmX8, rfl, by decide +kernel⟩
theorem cb_X8_startReading : j_CB yX8_startReading cX8_startReading 1 none 0 := ⟨by decide +kernel, j_in 731 (by decide +kernel) (by decide +kernel), j_in 113 (by decide +kernel) (by decide +kernel), by decide +kernel, by decide +kernel, by decide +kernel⟩
theorem cvRX8_46 : j_CV RX8 46 yX8_startReading := ⟨Or.inl (j_in 728 (by decide +kernel) (by decide +kernel)), j_in 730 (by decide +kernel) (by decide +kernel), j_in 0 (by decide +kernel) (by decide +kernel)⟩
theorem cb_X8_readLine : j_CB yX8_readLine cX8_readLine 3 none 0 := ⟨by decide +kernel, j_in 800 (by decide +kernel) (by decide +kernel), j_in 113 (by decide +kernel) (by decide +kernel), by decide +kernel, by decide +kernel, by decide +kernel⟩
theorem cvRX8_80 : j_CV RX8 80 yX8_readLine := ⟨Or.inl (j_in 797 (by decide +kernel) (by decide +kernel)), j_in 799 (by decide +kernel) (by decide +kernel), j_in 10 (by decide +kernel) (by decide +kernel)⟩
theorem fRX8_18 : j_F RX8 18 3 2 := ⟨RX8, TX8, 13, rfl, by decide, ws_in3, j_in 351 (by decide +kernel) (by decide +kernel)⟩
theorem fRX8_21 : j_F RX8 21 3 3 := ⟨RX8, TX8, 13, rfl, by decide, ws_in3, j_in 352 (by decide +kernel) (by decide +kernel)⟩
theorem cb_X8_closeLoop : j_CB yX8_closeLoop cX8_closeLoop 5 none 0 := ⟨by decide +kernel, j_in 755 (by decide +kernel) (by decide +kernel), j_in 113 (by decide +kernel) (by decide +kernel), by decide +kernel, by decide +kernel, by decide +kernel⟩
theorem cvRX8_55 : j_CV RX8 55 yX8_closeLoop := ⟨Or.inl (j_in 752 (by decide +kernel) (by decide +kernel)), j_in 754 (by decide +kernel) (by decide +kernel), j_in 4 (by decide +kernel) (by decide +kernel)⟩
theorem cb_X8_openLoop : j_CB yX8_openLoop cX8_openLoop 2 none 0 := ⟨by decide +kernel, j_in 759 (by decide +kernel) (by decide +kernel), j_in 113 (by decide +kernel) (by decide +kernel), by decide +kernel, by decide +kernel, by decide +kernel⟩
theorem cvRX8_63 : j_CV RX8 63 yX8_openLoop := ⟨Or.inl (j_in 756 (by decide +kernel) (by decide +kernel)), j_in 758 (by decide +kernel) (by decide +kernel), j_in 5 (by decide +kernel) (by decide +kernel)⟩
theorem dX8_cut_0 : decode cX8_cut 0 = .ok (.iload_n 1, 1) := by decide +kernel
theorem dX8_cut_1 : decode cX8_cut 1 = .ok (.ifCond .lt 11, 3) := by decide +kernel
theorem dX8_cut_4 : decode cX8_cut 4 = .ok (.iload_n 1, 1) := by decide +kernel
theorem dX8_cut_5 : decode cX8_cut 5 = .ok (.aload_n 0, 1) := by decide +kernel
theorem dX8_cut_6 : decode cX8_cut 6 = .ok (.getfield 28, 3) := by decide +kernel
theorem dX8_cut_9 : decode cX8_cut 9 = .ok (.if_icmp .le 5, 3) := by decide +kernel
theorem dX8_cut_12 : decode cX8_cut 12 = .ok (.iconst 0, 1) := by decide +kernel
theorem dX8_cut_13 : decode cX8_cut 13 = .ok (.ireturn, 1) := by decide +kernel
theorem dX8_cut_14 : decode cX8_cut 14 = .ok (.aload_n 0, 1) := by decide +kernel
theorem dX8_cut_15 : decode cX8_cut 15 = .ok (.iload_n 1, 1) := by decide +kernel
theorem dX8_cut_16 : decode cX8_cut 16 = .ok (.putfield 28, 3) := by decide +kernel
theorem dX8_cut_19 : decode cX8_cut 19 = .ok (.iconst 1, 1) := by decide +kernel
theorem dX8_cut_20 : decode cX8_cut 20 = .ok (.ireturn, 1) := by decide +kernel
def xX8_cut  (l1 : Int32) (M : j_M) : Option (Int32 × j_M) := (if l1 < (0 : Int32) then some ((nI 0), M) else oli (M 28 4) fun v1 => (if l1 ≤ v1 then oml (mw M 28 4 l1) fun M2 => some ((nI 1), M2) else some ((nI 0), M)))
set_option maxRecDepth 20000 in
set_option maxHeartbeats 2000000 in
theorem tX8_cut  (l1 : Int32) (M : j_M) : J (ρ := Int32 × j_M) yX8_cut cX8_cut 2 (some .boolean) 0 0 j_ei 0 [(0, .inr (13, 0, 28)), (1, .inl (l1))] [] M (xX8_cut  l1 M) := by
  unfold xX8_cut
  refine K_iload_n (q := 1) 1 dX8_cut_0 rfl rfl rfl ?_
  refine K_if_lt (q := 4) (tgt := 12) dX8_cut_1 rfl ?_ rfl ?_
  · refine K_iconst (q := 13) (v := nI 0) dX8_cut_12 rfl rfl ?_
    exact J_zret dX8_cut_13 (by decide)
  · refine K_iload_n (q := 5) 1 dX8_cut_4 rfl rfl rfl ?_
    refine K_aload_n (q := 6) 0 dX8_cut_5 rfl rfl rfl ?_
    refine K_getI (q := 9) (ci := 3) 4 dX8_cut_6 fRX8_28 rfl rfl rfl (fun v1 => ?_)
    refine K_icmp_le (q := 12) (tgt := 14) dX8_cut_9 rfl ?_ rfl ?_
    · refine K_aload_n (q := 15) 0 dX8_cut_14 rfl rfl rfl ?_
      refine K_iload_n (q := 16) 1 dX8_cut_15 rfl rfl rfl ?_
      refine K_putI (q := 19) (ci := 3) 4 dX8_cut_16 fRX8_28 fp_3_4 rfl rfl (by decide) rfl (fun M2 => ?_)
      refine K_iconst (q := 20) (v := nI 1) dX8_cut_19 rfl rfl ?_
      exact J_zret dX8_cut_20 (by decide)
    · refine K_iconst (q := 13) (v := nI 0) dX8_cut_12 rfl rfl ?_
      exact J_zret dX8_cut_13 (by decide)
theorem dX8_hasSpace_0 : decode cX8_hasSpace 0 = .ok (.aload_n 0, 1) := by decide +kernel
theorem dX8_hasSpace_1 : decode cX8_hasSpace 1 = .ok (.getfield 28, 3) := by decide +kernel
theorem dX8_hasSpace_4 : decode cX8_hasSpace 4 = .ok (.sipush 380, 3) := by decide +kernel
theorem dX8_hasSpace_7 : decode cX8_hasSpace 7 = .ok (.if_icmp .gt 7, 3) := by decide +kernel
theorem dX8_hasSpace_10 : decode cX8_hasSpace 10 = .ok (.iconst 1, 1) := by decide +kernel
theorem dX8_hasSpace_11 : decode cX8_hasSpace 11 = .ok (.goto 4, 3) := by decide +kernel
theorem dX8_hasSpace_14 : decode cX8_hasSpace 14 = .ok (.iconst 0, 1) := by decide +kernel
theorem dX8_hasSpace_15 : decode cX8_hasSpace 15 = .ok (.ireturn, 1) := by decide +kernel
def xX8_hasSpace   (M : j_M) : Option (Int32 × j_M) := oli (M 28 4) fun v1 => (if (nI 380) < v1 then some ((nI 0), M) else some ((nI 1), M))
set_option maxRecDepth 20000 in
set_option maxHeartbeats 2000000 in
theorem tX8_hasSpace   (M : j_M) : J (ρ := Int32 × j_M) yX8_hasSpace cX8_hasSpace 1 (some .boolean) 0 0 j_ei 0 [(0, .inr (13, 0, 28))] [] M (xX8_hasSpace   M) := by
  unfold xX8_hasSpace
  refine K_aload_n (q := 1) 0 dX8_hasSpace_0 rfl rfl rfl ?_
  refine K_getI (q := 4) (ci := 3) 4 dX8_hasSpace_1 fRX8_28 rfl rfl rfl (fun v1 => ?_)
  refine K_sipush (q := 7) (v := nI 380) dX8_hasSpace_4 rfl rfl ?_
  refine K_icmp_gt (q := 10) (tgt := 14) dX8_hasSpace_7 rfl ?_ rfl ?_
  · refine K_iconst (q := 15) (v := nI 0) dX8_hasSpace_14 rfl rfl ?_
    exact J_zret dX8_hasSpace_15 (by decide)
  · refine K_iconst (q := 11) (v := nI 1) dX8_hasSpace_10 rfl rfl ?_
    refine J_goto (tgt := 15) dX8_hasSpace_11 rfl ?_
    exact J_zret dX8_hasSpace_15 (by decide)
theorem dX8_put_0 : decode cX8_put 0 = .ok (.bipush 24, 2) := by decide +kernel
theorem dX8_put_2 : decode cX8_put 2 = .ok (.istore_n 2, 1) := by decide +kernel
theorem dX8_put_3 : decode cX8_put 3 = .ok (.iload_n 2, 1) := by decide +kernel
theorem dX8_put_4 : decode cX8_put 4 = .ok (.ifCond .lt 45, 3) := by decide +kernel
theorem dX8_put_7 : decode cX8_put 7 = .ok (.aload_n 0, 1) := by decide +kernel
theorem dX8_put_8 : decode cX8_put 8 = .ok (.getfield 28, 3) := by decide +kernel
theorem dX8_put_11 : decode cX8_put 11 = .ok (.sipush 400, 3) := by decide +kernel
theorem dX8_put_14 : decode cX8_put 14 = .ok (.if_icmp .ge 35, 3) := by decide +kernel
theorem dX8_put_17 : decode cX8_put 17 = .ok (.aload_n 0, 1) := by decide +kernel
theorem dX8_put_18 : decode cX8_put 18 = .ok (.getfield 11, 3) := by decide +kernel
theorem dX8_put_21 : decode cX8_put 21 = .ok (.aload_n 0, 1) := by decide +kernel
theorem dX8_put_22 : decode cX8_put 22 = .ok (.getfield 28, 3) := by decide +kernel
theorem dX8_put_25 : decode cX8_put 25 = .ok (.iload_n 1, 1) := by decide +kernel
theorem dX8_put_26 : decode cX8_put 26 = .ok (.iload_n 2, 1) := by decide +kernel
theorem dX8_put_27 : decode cX8_put 27 = .ok (.iushr, 1) := by decide +kernel
theorem dX8_put_28 : decode cX8_put 28 = .ok (.sipush 255, 3) := by decide +kernel
theorem dX8_put_31 : decode cX8_put 31 = .ok (.iand, 1) := by decide +kernel
theorem dX8_put_32 : decode cX8_put 32 = .ok (.iastore, 1) := by decide +kernel
theorem dX8_put_33 : decode cX8_put 33 = .ok (.aload_n 0, 1) := by decide +kernel
theorem dX8_put_34 : decode cX8_put 34 = .ok (.dup, 1) := by decide +kernel
theorem dX8_put_35 : decode cX8_put 35 = .ok (.getfield 28, 3) := by decide +kernel
theorem dX8_put_38 : decode cX8_put 38 = .ok (.iconst 1, 1) := by decide +kernel
theorem dX8_put_39 : decode cX8_put 39 = .ok (.iadd, 1) := by decide +kernel
theorem dX8_put_40 : decode cX8_put 40 = .ok (.putfield 28, 3) := by decide +kernel
theorem dX8_put_43 : decode cX8_put 43 = .ok (.iinc 2 (-8), 3) := by decide +kernel
theorem dX8_put_46 : decode cX8_put 46 = .ok (.goto (-43), 3) := by decide +kernel
theorem dX8_put_49 : decode cX8_put 49 = .ok (.return_, 1) := by decide +kernel
def xX8_put_3   : Nat → Int32 → Int32 → j_M → Option (j_M)
  | 0, _, _, _ => none
  | n + 1, l1, l2, M => (if l2 < (0 : Int32) then some M else oli (M 28 4) fun v1 => (if (nI 400) ≤ v1 then some M else oli (M 28 4) fun v2 => gd v2 400 (oml (mw M 29 (ix v2) ((us l1 l2) &&& (nI 255))) fun M3 => oli (M3 28 4) fun v4 => oml (mw M3 28 4 (v4 + (nI 1))) fun M5 => xX8_put_3  n l1 (l2 + (-8 : Int32)) M5)))
set_option maxRecDepth 20000 in
set_option maxHeartbeats 2000000 in
theorem tX8_put_3    : ∀ (n : Nat) (l1 : Int32) (l2 : Int32) (M : j_M), J (ρ := j_M) yX8_put cX8_put 3 none 0 0 j_ev 3 [(0, .inr (13, 0, 28)), (1, .inl (l1)), (2, .inl (l2))] [] M (xX8_put_3  n l1 l2 M) := by
  intro n
  induction n with
  | zero => intros; exact J_none
  | succ n ih =>
    intro l1 l2 M
    rw [xX8_put_3.eq_2]
    refine K_iload_n (q := 4) 2 dX8_put_3 rfl rfl rfl ?_
    refine K_if_lt (q := 7) (tgt := 49) dX8_put_4 rfl ?_ rfl ?_
    · exact J_vret dX8_put_49
    · refine K_aload_n (q := 8) 0 dX8_put_7 rfl rfl rfl ?_
      refine K_getI (q := 11) (ci := 3) 4 dX8_put_8 fRX8_28 rfl rfl rfl (fun v1 => ?_)
      refine K_sipush (q := 14) (v := nI 400) dX8_put_11 rfl rfl ?_
      refine K_icmp_ge (q := 17) (tgt := 49) dX8_put_14 rfl ?_ rfl ?_
      · exact J_vret dX8_put_49
      · refine K_aload_n (q := 18) 0 dX8_put_17 rfl rfl rfl ?_
        refine K_getR (q := 21) (ci := 3) (a2 := 29) 0 dX8_put_18 fRX8_11 rfl rfl (by decide) rfl rfl ?_
        refine K_aload_n (q := 22) 0 dX8_put_21 rfl rfl rfl ?_
        refine K_getI (q := 25) (ci := 3) 4 dX8_put_22 fRX8_28 rfl rfl rfl (fun v2 => ?_)
        refine K_iload_n (q := 26) 1 dX8_put_25 rfl rfl rfl ?_
        refine K_iload_n (q := 27) 2 dX8_put_26 rfl rfl rfl ?_
        refine K_iushr (q := 28) dX8_put_27 rfl ?_
        refine K_sipush (q := 31) (v := nI 255) dX8_put_28 rfl rfl ?_
        refine K_iand (q := 32) dX8_put_31 rfl ?_
        refine K_iast (q := 33) dX8_put_32 rfl (fun M3 => ?_)
        refine K_aload_n (q := 34) 0 dX8_put_33 rfl rfl rfl ?_
        refine K_dup (q := 35) dX8_put_34 rfl ?_
        refine K_getI (q := 38) (ci := 3) 4 dX8_put_35 fRX8_28 rfl rfl rfl (fun v4 => ?_)
        refine K_iconst (q := 39) (v := nI 1) dX8_put_38 rfl rfl ?_
        refine K_iadd (q := 40) dX8_put_39 rfl ?_
        refine K_putI (q := 43) (ci := 3) 4 dX8_put_40 fRX8_28 fp_3_4 rfl rfl (by decide) rfl (fun M5 => ?_)
        refine K_iinc (q := 46) (v := l2 + (-8 : Int32)) (ll' := [(2, .inl (l2 + (-8 : Int32))), (0, .inr (13, 0, 28)), (1, .inl (l1))]) 2 dX8_put_43 rfl rfl (by decide) rfl rfl ?_
        refine J_goto (tgt := 3) dX8_put_46 rfl ?_
        exact J_sub [1, 2, 0] (ih l1 (l2 + (-8 : Int32)) M5) rfl
def xX8_put  (l1 : Int32) (M : j_M) : Option (j_M) := xX8_put_3 fu l1 (nI 24) M
set_option maxRecDepth 20000 in
set_option maxHeartbeats 2000000 in
theorem tX8_put  (l1 : Int32) (M : j_M) : J (ρ := j_M) yX8_put cX8_put 3 none 0 0 j_ev 0 [(0, .inr (13, 0, 28)), (1, .inl (l1))] [] M (xX8_put  l1 M) := by
  unfold xX8_put
  refine K_bipush (q := 2) (v := nI 24) dX8_put_0 rfl rfl ?_
  refine K_istore_n (q := 3) (ll' := [(2, .inl ((nI 24))), (0, .inr (13, 0, 28)), (1, .inl (l1))]) dX8_put_2 rfl (by decide) rfl rfl ?_
  exact J_sub [1, 2, 0] (tX8_put_3 fu l1 (nI 24) M) rfl
theorem dX8_clearFault_0 : decode cX8_clearFault 0 = .ok (.aload_n 0, 1) := by decide +kernel
theorem dX8_clearFault_1 : decode cX8_clearFault 1 = .ok (.iconst 0, 1) := by decide +kernel
theorem dX8_clearFault_2 : decode cX8_clearFault 2 = .ok (.putfield 31, 3) := by decide +kernel
theorem dX8_clearFault_5 : decode cX8_clearFault 5 = .ok (.aload_n 0, 1) := by decide +kernel
theorem dX8_clearFault_6 : decode cX8_clearFault 6 = .ok (.iconst (-1), 1) := by decide +kernel
theorem dX8_clearFault_7 : decode cX8_clearFault 7 = .ok (.putfield 24, 3) := by decide +kernel
theorem dX8_clearFault_10 : decode cX8_clearFault 10 = .ok (.return_, 1) := by decide +kernel
def xX8_clearFault   (M : j_M) : Option (j_M) := oml (mw M 28 5 (nI 0)) fun M1 => oml (mw M1 28 6 (-1 : Int32)) fun M2 => some M2
set_option maxRecDepth 20000 in
set_option maxHeartbeats 2000000 in
theorem tX8_clearFault   (M : j_M) : J (ρ := j_M) yX8_clearFault cX8_clearFault 1 none 0 0 j_ev 0 [(0, .inr (13, 0, 28))] [] M (xX8_clearFault   M) := by
  unfold xX8_clearFault
  refine K_aload_n (q := 1) 0 dX8_clearFault_0 rfl rfl rfl ?_
  refine K_iconst (q := 2) (v := nI 0) dX8_clearFault_1 rfl rfl ?_
  refine K_putI (q := 5) (ci := 3) 5 dX8_clearFault_2 fRX8_31 fp_3_5 rfl rfl (by decide) rfl (fun M1 => ?_)
  refine K_aload_n (q := 6) 0 dX8_clearFault_5 rfl rfl rfl ?_
  refine K_iconst (q := 7) (v := -1) dX8_clearFault_6 rfl rfl ?_
  refine K_putI (q := 10) (ci := 3) 6 dX8_clearFault_7 fRX8_24 fp_3_6 rfl rfl (by decide) rfl (fun M2 => ?_)
  exact J_vret dX8_clearFault_10
theorem dX8_isDigit_0 : decode cX8_isDigit 0 = .ok (.iload_n 0, 1) := by decide +kernel
theorem dX8_isDigit_1 : decode cX8_isDigit 1 = .ok (.bipush 48, 2) := by decide +kernel
theorem dX8_isDigit_3 : decode cX8_isDigit 3 = .ok (.if_icmp .lt 13, 3) := by decide +kernel
theorem dX8_isDigit_6 : decode cX8_isDigit 6 = .ok (.iload_n 0, 1) := by decide +kernel
theorem dX8_isDigit_7 : decode cX8_isDigit 7 = .ok (.bipush 57, 2) := by decide +kernel
theorem dX8_isDigit_9 : decode cX8_isDigit 9 = .ok (.if_icmp .gt 7, 3) := by decide +kernel
theorem dX8_isDigit_12 : decode cX8_isDigit 12 = .ok (.iconst 1, 1) := by decide +kernel
theorem dX8_isDigit_13 : decode cX8_isDigit 13 = .ok (.goto 4, 3) := by decide +kernel
theorem dX8_isDigit_16 : decode cX8_isDigit 16 = .ok (.iconst 0, 1) := by decide +kernel
theorem dX8_isDigit_17 : decode cX8_isDigit 17 = .ok (.ireturn, 1) := by decide +kernel
def xX8_isDigit  (l0 : Int32) (M : j_M) : Option (Int32 × j_M) := (if l0 < (nI 48) then some ((nI 0), M) else (if (nI 57) < l0 then some ((nI 0), M) else some ((nI 1), M)))
set_option maxRecDepth 20000 in
set_option maxHeartbeats 2000000 in
theorem tX8_isDigit  (l0 : Int32) (M : j_M) : J (ρ := Int32 × j_M) yX8_isDigit cX8_isDigit 1 (some .boolean) 0 0 j_ei 0 [(0, .inl (l0))] [] M (xX8_isDigit  l0 M) := by
  unfold xX8_isDigit
  refine K_iload_n (q := 1) 0 dX8_isDigit_0 rfl rfl rfl ?_
  refine K_bipush (q := 3) (v := nI 48) dX8_isDigit_1 rfl rfl ?_
  refine K_icmp_lt (q := 6) (tgt := 16) dX8_isDigit_3 rfl ?_ rfl ?_
  · refine K_iconst (q := 17) (v := nI 0) dX8_isDigit_16 rfl rfl ?_
    exact J_zret dX8_isDigit_17 (by decide)
  · refine K_iload_n (q := 7) 0 dX8_isDigit_6 rfl rfl rfl ?_
    refine K_bipush (q := 9) (v := nI 57) dX8_isDigit_7 rfl rfl ?_
    refine K_icmp_gt (q := 12) (tgt := 16) dX8_isDigit_9 rfl ?_ rfl ?_
    · refine K_iconst (q := 17) (v := nI 0) dX8_isDigit_16 rfl rfl ?_
      exact J_zret dX8_isDigit_17 (by decide)
    · refine K_iconst (q := 13) (v := nI 1) dX8_isDigit_12 rfl rfl ?_
      refine J_goto (tgt := 17) dX8_isDigit_13 rfl ?_
      exact J_zret dX8_isDigit_17 (by decide)
theorem dX8_isLetter_0 : decode cX8_isLetter 0 = .ok (.iload_n 0, 1) := by decide +kernel
theorem dX8_isLetter_1 : decode cX8_isLetter 1 = .ok (.bipush 97, 2) := by decide +kernel
theorem dX8_isLetter_3 : decode cX8_isLetter 3 = .ok (.if_icmp .lt 9, 3) := by decide +kernel
theorem dX8_isLetter_6 : decode cX8_isLetter 6 = .ok (.iload_n 0, 1) := by decide +kernel
theorem dX8_isLetter_7 : decode cX8_isLetter 7 = .ok (.bipush 122, 2) := by decide +kernel
theorem dX8_isLetter_9 : decode cX8_isLetter 9 = .ok (.if_icmp .le 15, 3) := by decide +kernel
theorem dX8_isLetter_12 : decode cX8_isLetter 12 = .ok (.iload_n 0, 1) := by decide +kernel
theorem dX8_isLetter_13 : decode cX8_isLetter 13 = .ok (.bipush 65, 2) := by decide +kernel
theorem dX8_isLetter_15 : decode cX8_isLetter 15 = .ok (.if_icmp .lt 13, 3) := by decide +kernel
theorem dX8_isLetter_18 : decode cX8_isLetter 18 = .ok (.iload_n 0, 1) := by decide +kernel
theorem dX8_isLetter_19 : decode cX8_isLetter 19 = .ok (.bipush 90, 2) := by decide +kernel
theorem dX8_isLetter_21 : decode cX8_isLetter 21 = .ok (.if_icmp .gt 7, 3) := by decide +kernel
theorem dX8_isLetter_24 : decode cX8_isLetter 24 = .ok (.iconst 1, 1) := by decide +kernel
theorem dX8_isLetter_25 : decode cX8_isLetter 25 = .ok (.goto 4, 3) := by decide +kernel
theorem dX8_isLetter_28 : decode cX8_isLetter 28 = .ok (.iconst 0, 1) := by decide +kernel
theorem dX8_isLetter_29 : decode cX8_isLetter 29 = .ok (.ireturn, 1) := by decide +kernel
def xX8_isLetter_12   (l0 : Int32) (M : j_M) : Option (Int32 × j_M) := (if l0 < (nI 65) then some ((nI 0), M) else (if (nI 90) < l0 then some ((nI 0), M) else some ((nI 1), M)))
set_option maxRecDepth 20000 in
set_option maxHeartbeats 2000000 in
theorem tX8_isLetter_12    (l0 : Int32) (M : j_M) : J (ρ := Int32 × j_M) yX8_isLetter cX8_isLetter 1 (some .boolean) 0 0 j_ei 12 [(0, .inl (l0))] [] M (xX8_isLetter_12  l0 M) := by
  unfold xX8_isLetter_12
  refine K_iload_n (q := 13) 0 dX8_isLetter_12 rfl rfl rfl ?_
  refine K_bipush (q := 15) (v := nI 65) dX8_isLetter_13 rfl rfl ?_
  refine K_icmp_lt (q := 18) (tgt := 28) dX8_isLetter_15 rfl ?_ rfl ?_
  · refine K_iconst (q := 29) (v := nI 0) dX8_isLetter_28 rfl rfl ?_
    exact J_zret dX8_isLetter_29 (by decide)
  · refine K_iload_n (q := 19) 0 dX8_isLetter_18 rfl rfl rfl ?_
    refine K_bipush (q := 21) (v := nI 90) dX8_isLetter_19 rfl rfl ?_
    refine K_icmp_gt (q := 24) (tgt := 28) dX8_isLetter_21 rfl ?_ rfl ?_
    · refine K_iconst (q := 29) (v := nI 0) dX8_isLetter_28 rfl rfl ?_
      exact J_zret dX8_isLetter_29 (by decide)
    · refine K_iconst (q := 25) (v := nI 1) dX8_isLetter_24 rfl rfl ?_
      refine J_goto (tgt := 29) dX8_isLetter_25 rfl ?_
      exact J_zret dX8_isLetter_29 (by decide)
def xX8_isLetter  (l0 : Int32) (M : j_M) : Option (Int32 × j_M) := (if l0 < (nI 97) then xX8_isLetter_12  l0 M else (if l0 ≤ (nI 122) then some ((nI 1), M) else xX8_isLetter_12  l0 M))
set_option maxRecDepth 20000 in
set_option maxHeartbeats 2000000 in
theorem tX8_isLetter  (l0 : Int32) (M : j_M) : J (ρ := Int32 × j_M) yX8_isLetter cX8_isLetter 1 (some .boolean) 0 0 j_ei 0 [(0, .inl (l0))] [] M (xX8_isLetter  l0 M) := by
  unfold xX8_isLetter
  refine K_iload_n (q := 1) 0 dX8_isLetter_0 rfl rfl rfl ?_
  refine K_bipush (q := 3) (v := nI 97) dX8_isLetter_1 rfl rfl ?_
  refine K_icmp_lt (q := 6) (tgt := 12) dX8_isLetter_3 rfl ?_ rfl ?_
  · exact J_sub [0] (tX8_isLetter_12  l0 M) rfl
  · refine K_iload_n (q := 7) 0 dX8_isLetter_6 rfl rfl rfl ?_
    refine K_bipush (q := 9) (v := nI 122) dX8_isLetter_7 rfl rfl ?_
    refine K_icmp_le (q := 12) (tgt := 24) dX8_isLetter_9 rfl ?_ rfl ?_
    · refine K_iconst (q := 25) (v := nI 1) dX8_isLetter_24 rfl rfl ?_
      refine J_goto (tgt := 29) dX8_isLetter_25 rfl ?_
      exact J_zret dX8_isLetter_29 (by decide)
    · exact J_sub [0] (tX8_isLetter_12  l0 M) rfl
theorem dX8_takeDigits_0 : decode cX8_takeDigits 0 = .ok (.aload_n 0, 1) := by decide +kernel
theorem dX8_takeDigits_1 : decode cX8_takeDigits 1 = .ok (.iconst 0, 1) := by decide +kernel
theorem dX8_takeDigits_2 : decode cX8_takeDigits 2 = .ok (.putfield 58, 3) := by decide +kernel
theorem dX8_takeDigits_5 : decode cX8_takeDigits 5 = .ok (.aload_n 0, 1) := by decide +kernel
theorem dX8_takeDigits_6 : decode cX8_takeDigits 6 = .ok (.getfield 37, 3) := by decide +kernel
theorem dX8_takeDigits_9 : decode cX8_takeDigits 9 = .ok (.aload_n 0, 1) := by decide +kernel
theorem dX8_takeDigits_10 : decode cX8_takeDigits 10 = .ok (.getfield 28, 3) := by decide +kernel
theorem dX8_takeDigits_13 : decode cX8_takeDigits 13 = .ok (.if_icmp .ge 68, 3) := by decide +kernel
theorem dX8_takeDigits_16 : decode cX8_takeDigits 16 = .ok (.aload_n 0, 1) := by decide +kernel
theorem dX8_takeDigits_17 : decode cX8_takeDigits 17 = .ok (.getfield 11, 3) := by decide +kernel
theorem dX8_takeDigits_20 : decode cX8_takeDigits 20 = .ok (.aload_n 0, 1) := by decide +kernel
theorem dX8_takeDigits_21 : decode cX8_takeDigits 21 = .ok (.getfield 37, 3) := by decide +kernel
theorem dX8_takeDigits_24 : decode cX8_takeDigits 24 = .ok (.iaload, 1) := by decide +kernel
theorem dX8_takeDigits_25 : decode cX8_takeDigits 25 = .ok (.invokestatic 106, 3) := by decide +kernel
theorem dX8_takeDigits_28 : decode cX8_takeDigits 28 = .ok (.ifCond .eq 53, 3) := by decide +kernel
theorem dX8_takeDigits_31 : decode cX8_takeDigits 31 = .ok (.aload_n 0, 1) := by decide +kernel
theorem dX8_takeDigits_32 : decode cX8_takeDigits 32 = .ok (.getfield 37, 3) := by decide +kernel
theorem dX8_takeDigits_35 : decode cX8_takeDigits 35 = .ok (.aload_n 0, 1) := by decide +kernel
theorem dX8_takeDigits_36 : decode cX8_takeDigits 36 = .ok (.getfield 34, 3) := by decide +kernel
theorem dX8_takeDigits_39 : decode cX8_takeDigits 39 = .ok (.isub, 1) := by decide +kernel
theorem dX8_takeDigits_40 : decode cX8_takeDigits 40 = .ok (.iconst 4, 1) := by decide +kernel
theorem dX8_takeDigits_41 : decode cX8_takeDigits 41 = .ok (.if_icmp .ge 27, 3) := by decide +kernel
theorem dX8_takeDigits_44 : decode cX8_takeDigits 44 = .ok (.aload_n 0, 1) := by decide +kernel
theorem dX8_takeDigits_45 : decode cX8_takeDigits 45 = .ok (.aload_n 0, 1) := by decide +kernel
theorem dX8_takeDigits_46 : decode cX8_takeDigits 46 = .ok (.getfield 58, 3) := by decide +kernel
theorem dX8_takeDigits_49 : decode cX8_takeDigits 49 = .ok (.bipush 10, 2) := by decide +kernel
theorem dX8_takeDigits_51 : decode cX8_takeDigits 51 = .ok (.imul, 1) := by decide +kernel
theorem dX8_takeDigits_52 : decode cX8_takeDigits 52 = .ok (.aload_n 0, 1) := by decide +kernel
theorem dX8_takeDigits_53 : decode cX8_takeDigits 53 = .ok (.getfield 11, 3) := by decide +kernel
theorem dX8_takeDigits_56 : decode cX8_takeDigits 56 = .ok (.aload_n 0, 1) := by decide +kernel
theorem dX8_takeDigits_57 : decode cX8_takeDigits 57 = .ok (.getfield 37, 3) := by decide +kernel
theorem dX8_takeDigits_60 : decode cX8_takeDigits 60 = .ok (.iaload, 1) := by decide +kernel
theorem dX8_takeDigits_61 : decode cX8_takeDigits 61 = .ok (.iadd, 1) := by decide +kernel
theorem dX8_takeDigits_62 : decode cX8_takeDigits 62 = .ok (.bipush 48, 2) := by decide +kernel
theorem dX8_takeDigits_64 : decode cX8_takeDigits 64 = .ok (.isub, 1) := by decide +kernel
theorem dX8_takeDigits_65 : decode cX8_takeDigits 65 = .ok (.putfield 58, 3) := by decide +kernel
theorem dX8_takeDigits_68 : decode cX8_takeDigits 68 = .ok (.aload_n 0, 1) := by decide +kernel
theorem dX8_takeDigits_69 : decode cX8_takeDigits 69 = .ok (.dup, 1) := by decide +kernel
theorem dX8_takeDigits_70 : decode cX8_takeDigits 70 = .ok (.getfield 37, 3) := by decide +kernel
theorem dX8_takeDigits_73 : decode cX8_takeDigits 73 = .ok (.iconst 1, 1) := by decide +kernel
theorem dX8_takeDigits_74 : decode cX8_takeDigits 74 = .ok (.iadd, 1) := by decide +kernel
theorem dX8_takeDigits_75 : decode cX8_takeDigits 75 = .ok (.putfield 37, 3) := by decide +kernel
theorem dX8_takeDigits_78 : decode cX8_takeDigits 78 = .ok (.goto (-73), 3) := by decide +kernel
theorem dX8_takeDigits_81 : decode cX8_takeDigits 81 = .ok (.aload_n 0, 1) := by decide +kernel
theorem dX8_takeDigits_82 : decode cX8_takeDigits 82 = .ok (.aload_n 0, 1) := by decide +kernel
theorem dX8_takeDigits_83 : decode cX8_takeDigits 83 = .ok (.getfield 37, 3) := by decide +kernel
theorem dX8_takeDigits_86 : decode cX8_takeDigits 86 = .ok (.aload_n 0, 1) := by decide +kernel
theorem dX8_takeDigits_87 : decode cX8_takeDigits 87 = .ok (.getfield 34, 3) := by decide +kernel
theorem dX8_takeDigits_90 : decode cX8_takeDigits 90 = .ok (.isub, 1) := by decide +kernel
theorem dX8_takeDigits_91 : decode cX8_takeDigits 91 = .ok (.iconst 4, 1) := by decide +kernel
theorem dX8_takeDigits_92 : decode cX8_takeDigits 92 = .ok (.if_icmp .gt 7, 3) := by decide +kernel
theorem dX8_takeDigits_95 : decode cX8_takeDigits 95 = .ok (.iconst 2, 1) := by decide +kernel
theorem dX8_takeDigits_96 : decode cX8_takeDigits 96 = .ok (.goto 5, 3) := by decide +kernel
theorem dX8_takeDigits_99 : decode cX8_takeDigits 99 = .ok (.bipush 6, 2) := by decide +kernel
theorem dX8_takeDigits_101 : decode cX8_takeDigits 101 = .ok (.putfield 52, 3) := by decide +kernel
theorem dX8_takeDigits_104 : decode cX8_takeDigits 104 = .ok (.return_, 1) := by decide +kernel
def xX8_takeDigits_101   (s0 : Int32) (M : j_M) : Option (j_M) := oml (mw M 28 10 s0) fun M1 => some M1
set_option maxRecDepth 20000 in
set_option maxHeartbeats 2000000 in
theorem tX8_takeDigits_101    (s0 : Int32) (M : j_M) : J (ρ := j_M) yX8_takeDigits cX8_takeDigits 1 none 1 20 j_ev 101 [] [.inl (s0), .inr (13, 0, 28)] M (xX8_takeDigits_101  s0 M) := by
  unfold xX8_takeDigits_101
  refine K_putI (q := 104) (ci := 3) 10 dX8_takeDigits_101 fRX8_52 fp_3_10 rfl rfl (by decide) rfl (fun M1 => ?_)
  exact J_vret dX8_takeDigits_104
def xX8_takeDigits_81    (M : j_M) : Option (j_M) := oli (M 28 9) fun v1 => oli (M 28 12) fun v2 => (if (nI 4) < (v1 - v2) then xX8_takeDigits_101  (nI 6) M else xX8_takeDigits_101  (nI 2) M)
set_option maxRecDepth 20000 in
set_option maxHeartbeats 2000000 in
theorem tX8_takeDigits_81     (M : j_M) : J (ρ := j_M) yX8_takeDigits cX8_takeDigits 1 none 1 20 j_ev 81 [(0, .inr (13, 0, 28))] [] M (xX8_takeDigits_81   M) := by
  unfold xX8_takeDigits_81
  refine K_aload_n (q := 82) 0 dX8_takeDigits_81 rfl rfl rfl ?_
  refine K_aload_n (q := 83) 0 dX8_takeDigits_82 rfl rfl rfl ?_
  refine K_getI (q := 86) (ci := 3) 9 dX8_takeDigits_83 fRX8_37 rfl rfl rfl (fun v1 => ?_)
  refine K_aload_n (q := 87) 0 dX8_takeDigits_86 rfl rfl rfl ?_
  refine K_getI (q := 90) (ci := 3) 12 dX8_takeDigits_87 fRX8_34 rfl rfl rfl (fun v2 => ?_)
  refine K_isub (q := 91) dX8_takeDigits_90 rfl ?_
  refine K_iconst (q := 92) (v := nI 4) dX8_takeDigits_91 rfl rfl ?_
  refine K_icmp_gt (q := 95) (tgt := 99) dX8_takeDigits_92 rfl ?_ rfl ?_
  · refine K_bipush (q := 101) (v := nI 6) dX8_takeDigits_99 rfl rfl ?_
    exact J_sub [] (tX8_takeDigits_101  (nI 6) M) rfl
  · refine K_iconst (q := 96) (v := nI 2) dX8_takeDigits_95 rfl rfl ?_
    refine J_goto (tgt := 101) dX8_takeDigits_96 rfl ?_
    exact J_sub [] (tX8_takeDigits_101  (nI 2) M) rfl
def xX8_takeDigits_68 (k5 : j_M → Option (j_M))   (M : j_M) : Option (j_M) := oli (M 28 9) fun v1 => oml (mw M 28 9 (v1 + (nI 1))) fun M2 => k5 M2
set_option maxRecDepth 20000 in
set_option maxHeartbeats 2000000 in
theorem tX8_takeDigits_68 (k5 : j_M → Option (j_M))  (hk5 : ∀ (M : j_M), J (ρ := j_M) yX8_takeDigits cX8_takeDigits 1 none 1 20 j_ev 5 [(0, .inr (13, 0, 28))] [] M (k5  M))  (M : j_M) : J (ρ := j_M) yX8_takeDigits cX8_takeDigits 1 none 1 20 j_ev 68 [(0, .inr (13, 0, 28))] [] M (xX8_takeDigits_68 k5  M) := by
  unfold xX8_takeDigits_68
  refine K_aload_n (q := 69) 0 dX8_takeDigits_68 rfl rfl rfl ?_
  refine K_dup (q := 70) dX8_takeDigits_69 rfl ?_
  refine K_getI (q := 73) (ci := 3) 9 dX8_takeDigits_70 fRX8_37 rfl rfl rfl (fun v1 => ?_)
  refine K_iconst (q := 74) (v := nI 1) dX8_takeDigits_73 rfl rfl ?_
  refine K_iadd (q := 75) dX8_takeDigits_74 rfl ?_
  refine K_putI (q := 78) (ci := 3) 9 dX8_takeDigits_75 fRX8_37 fp_3_9 rfl rfl (by decide) rfl (fun M2 => ?_)
  refine J_goto (tgt := 5) dX8_takeDigits_78 rfl ?_
  exact J_sub [0] (hk5 M2) rfl
def xX8_takeDigits_5   : Nat → j_M → Option (j_M)
  | 0, _ => none
  | n + 1, M => oli (M 28 9) fun v1 => oli (M 28 4) fun v2 => (if v2 ≤ v1 then xX8_takeDigits_81  M else oli (M 28 9) fun v3 => gd v3 400 (oli (M 29 (ix v3)) fun v4 => obi (xX8_isDigit v4 M) fun v6 M5 => (if v6 = (0 : Int32) then xX8_takeDigits_81  M5 else oli (M5 28 9) fun v7 => oli (M5 28 12) fun v8 => (if (nI 4) ≤ (v7 - v8) then xX8_takeDigits_68 (xX8_takeDigits_5  n) M5 else oli (M5 28 11) fun v9 => oli (M5 28 9) fun v10 => gd v10 400 (oli (M5 29 (ix v10)) fun v11 => oml (mw M5 28 11 (((v9 * (nI 10)) + v11) - (nI 48))) fun M12 => xX8_takeDigits_68 (xX8_takeDigits_5  n) M12)))))
set_option maxRecDepth 20000 in
set_option maxHeartbeats 2000000 in
theorem tX8_takeDigits_5    : ∀ (n : Nat) (M : j_M), J (ρ := j_M) yX8_takeDigits cX8_takeDigits 1 none 1 20 j_ev 5 [(0, .inr (13, 0, 28))] [] M (xX8_takeDigits_5  n  M) := by
  intro n
  induction n with
  | zero => intros; exact J_none
  | succ n ih =>
    intro  M
    rw [xX8_takeDigits_5.eq_2]
    refine K_aload_n (q := 6) 0 dX8_takeDigits_5 rfl rfl rfl ?_
    refine K_getI (q := 9) (ci := 3) 9 dX8_takeDigits_6 fRX8_37 rfl rfl rfl (fun v1 => ?_)
    refine K_aload_n (q := 10) 0 dX8_takeDigits_9 rfl rfl rfl ?_
    refine K_getI (q := 13) (ci := 3) 4 dX8_takeDigits_10 fRX8_28 rfl rfl rfl (fun v2 => ?_)
    refine K_icmp_ge (q := 16) (tgt := 81) dX8_takeDigits_13 rfl ?_ rfl ?_
    · exact J_sub [0] (tX8_takeDigits_81  M) rfl
    · refine K_aload_n (q := 17) 0 dX8_takeDigits_16 rfl rfl rfl ?_
      refine K_getR (q := 20) (ci := 3) (a2 := 29) 0 dX8_takeDigits_17 fRX8_11 rfl rfl (by decide) rfl rfl ?_
      refine K_aload_n (q := 21) 0 dX8_takeDigits_20 rfl rfl rfl ?_
      refine K_getI (q := 24) (ci := 3) 9 dX8_takeDigits_21 fRX8_37 rfl rfl rfl (fun v3 => ?_)
      refine K_iald (q := 25) dX8_takeDigits_24 rfl (fun v4 => ?_)
      refine K_csi (q := 28) [.inl (v4)] dX8_takeDigits_25 cb_X8_isDigit cvRX8_106 rfl (Nat.le_of_ble_eq_true rfl) ⟨by decide, by decide⟩ (Nat.le_of_ble_eq_true rfl) rfl (tX8_isDigit v4 M) rfl (fun v6 M5 => ?_)
      refine K_if_eq (q := 31) (tgt := 81) dX8_takeDigits_28 rfl ?_ rfl ?_
      · exact J_sub [0] (tX8_takeDigits_81  M5) rfl
      · refine K_aload_n (q := 32) 0 dX8_takeDigits_31 rfl rfl rfl ?_
        refine K_getI (q := 35) (ci := 3) 9 dX8_takeDigits_32 fRX8_37 rfl rfl rfl (fun v7 => ?_)
        refine K_aload_n (q := 36) 0 dX8_takeDigits_35 rfl rfl rfl ?_
        refine K_getI (q := 39) (ci := 3) 12 dX8_takeDigits_36 fRX8_34 rfl rfl rfl (fun v8 => ?_)
        refine K_isub (q := 40) dX8_takeDigits_39 rfl ?_
        refine K_iconst (q := 41) (v := nI 4) dX8_takeDigits_40 rfl rfl ?_
        refine K_icmp_ge (q := 44) (tgt := 68) dX8_takeDigits_41 rfl ?_ rfl ?_
        · exact J_sub [0] (tX8_takeDigits_68 (xX8_takeDigits_5  n) ih M5) rfl
        · refine K_aload_n (q := 45) 0 dX8_takeDigits_44 rfl rfl rfl ?_
          refine K_aload_n (q := 46) 0 dX8_takeDigits_45 rfl rfl rfl ?_
          refine K_getI (q := 49) (ci := 3) 11 dX8_takeDigits_46 fRX8_58 rfl rfl rfl (fun v9 => ?_)
          refine K_bipush (q := 51) (v := nI 10) dX8_takeDigits_49 rfl rfl ?_
          refine K_imul (q := 52) dX8_takeDigits_51 rfl ?_
          refine K_aload_n (q := 53) 0 dX8_takeDigits_52 rfl rfl rfl ?_
          refine K_getR (q := 56) (ci := 3) (a2 := 29) 0 dX8_takeDigits_53 fRX8_11 rfl rfl (by decide) rfl rfl ?_
          refine K_aload_n (q := 57) 0 dX8_takeDigits_56 rfl rfl rfl ?_
          refine K_getI (q := 60) (ci := 3) 9 dX8_takeDigits_57 fRX8_37 rfl rfl rfl (fun v10 => ?_)
          refine K_iald (q := 61) dX8_takeDigits_60 rfl (fun v11 => ?_)
          refine K_iadd (q := 62) dX8_takeDigits_61 rfl ?_
          refine K_bipush (q := 64) (v := nI 48) dX8_takeDigits_62 rfl rfl ?_
          refine K_isub (q := 65) dX8_takeDigits_64 rfl ?_
          refine K_putI (q := 68) (ci := 3) 11 dX8_takeDigits_65 fRX8_58 fp_3_11 rfl rfl (by decide) rfl (fun M12 => ?_)
          exact J_sub [0] (tX8_takeDigits_68 (xX8_takeDigits_5  n) ih M12) rfl
def xX8_takeDigits   (M : j_M) : Option (j_M) := oml (mw M 28 11 (nI 0)) fun M1 => xX8_takeDigits_5 fu M1
set_option maxRecDepth 20000 in
set_option maxHeartbeats 2000000 in
theorem tX8_takeDigits   (M : j_M) : J (ρ := j_M) yX8_takeDigits cX8_takeDigits 1 none 1 20 j_ev 0 [(0, .inr (13, 0, 28))] [] M (xX8_takeDigits   M) := by
  unfold xX8_takeDigits
  refine K_aload_n (q := 1) 0 dX8_takeDigits_0 rfl rfl rfl ?_
  refine K_iconst (q := 2) (v := nI 0) dX8_takeDigits_1 rfl rfl ?_
  refine K_putI (q := 5) (ci := 3) 11 dX8_takeDigits_2 fRX8_58 fp_3_11 rfl rfl (by decide) rfl (fun M1 => ?_)
  exact J_sub [0] (tX8_takeDigits_5 fu M1) rfl
theorem dX8_takeWord_0 : decode cX8_takeWord 0 = .ok (.lconst 0, 1) := by decide +kernel
theorem dX8_takeWord_1 : decode cX8_takeWord 1 = .ok (.lstore_n 1, 1) := by decide +kernel
theorem dX8_takeWord_2 : decode cX8_takeWord 2 = .ok (.aload_n 0, 1) := by decide +kernel
theorem dX8_takeWord_3 : decode cX8_takeWord 3 = .ok (.getfield 37, 3) := by decide +kernel
theorem dX8_takeWord_6 : decode cX8_takeWord 6 = .ok (.aload_n 0, 1) := by decide +kernel
theorem dX8_takeWord_7 : decode cX8_takeWord 7 = .ok (.getfield 28, 3) := by decide +kernel
theorem dX8_takeWord_10 : decode cX8_takeWord 10 = .ok (.if_icmp .ge 47, 3) := by decide +kernel
theorem dX8_takeWord_13 : decode cX8_takeWord 13 = .ok (.aload_n 0, 1) := by decide +kernel
theorem dX8_takeWord_14 : decode cX8_takeWord 14 = .ok (.getfield 11, 3) := by decide +kernel
theorem dX8_takeWord_17 : decode cX8_takeWord 17 = .ok (.aload_n 0, 1) := by decide +kernel
theorem dX8_takeWord_18 : decode cX8_takeWord 18 = .ok (.getfield 37, 3) := by decide +kernel
theorem dX8_takeWord_21 : decode cX8_takeWord 21 = .ok (.iaload, 1) := by decide +kernel
theorem dX8_takeWord_22 : decode cX8_takeWord 22 = .ok (.invokestatic 99, 3) := by decide +kernel
theorem dX8_takeWord_25 : decode cX8_takeWord 25 = .ok (.ifCond .eq 32, 3) := by decide +kernel
theorem dX8_takeWord_28 : decode cX8_takeWord 28 = .ok (.lload_n 1, 1) := by decide +kernel
theorem dX8_takeWord_29 : decode cX8_takeWord 29 = .ok (.bipush 8, 2) := by decide +kernel
theorem dX8_takeWord_31 : decode cX8_takeWord 31 = .ok (.lshl, 1) := by decide +kernel
theorem dX8_takeWord_32 : decode cX8_takeWord 32 = .ok (.aload_n 0, 1) := by decide +kernel
theorem dX8_takeWord_33 : decode cX8_takeWord 33 = .ok (.getfield 11, 3) := by decide +kernel
theorem dX8_takeWord_36 : decode cX8_takeWord 36 = .ok (.aload_n 0, 1) := by decide +kernel
theorem dX8_takeWord_37 : decode cX8_takeWord 37 = .ok (.getfield 37, 3) := by decide +kernel
theorem dX8_takeWord_40 : decode cX8_takeWord 40 = .ok (.iaload, 1) := by decide +kernel
theorem dX8_takeWord_41 : decode cX8_takeWord 41 = .ok (.i2l, 1) := by decide +kernel
theorem dX8_takeWord_42 : decode cX8_takeWord 42 = .ok (.lor, 1) := by decide +kernel
theorem dX8_takeWord_43 : decode cX8_takeWord 43 = .ok (.lstore_n 1, 1) := by decide +kernel
theorem dX8_takeWord_44 : decode cX8_takeWord 44 = .ok (.aload_n 0, 1) := by decide +kernel
theorem dX8_takeWord_45 : decode cX8_takeWord 45 = .ok (.dup, 1) := by decide +kernel
theorem dX8_takeWord_46 : decode cX8_takeWord 46 = .ok (.getfield 37, 3) := by decide +kernel
theorem dX8_takeWord_49 : decode cX8_takeWord 49 = .ok (.iconst 1, 1) := by decide +kernel
theorem dX8_takeWord_50 : decode cX8_takeWord 50 = .ok (.iadd, 1) := by decide +kernel
theorem dX8_takeWord_51 : decode cX8_takeWord 51 = .ok (.putfield 37, 3) := by decide +kernel
theorem dX8_takeWord_54 : decode cX8_takeWord 54 = .ok (.goto (-52), 3) := by decide +kernel
theorem dX8_takeWord_57 : decode cX8_takeWord 57 = .ok (.aload_n 0, 1) := by decide +kernel
theorem dX8_takeWord_58 : decode cX8_takeWord 58 = .ok (.bipush 6, 2) := by decide +kernel
theorem dX8_takeWord_60 : decode cX8_takeWord 60 = .ok (.putfield 52, 3) := by decide +kernel
theorem dX8_takeWord_63 : decode cX8_takeWord 63 = .ok (.iconst 1, 1) := by decide +kernel
theorem dX8_takeWord_64 : decode cX8_takeWord 64 = .ok (.istore_n 3, 1) := by decide +kernel
theorem dX8_takeWord_65 : decode cX8_takeWord 65 = .ok (.iload_n 3, 1) := by decide +kernel
theorem dX8_takeWord_66 : decode cX8_takeWord 66 = .ok (.bipush 12, 2) := by decide +kernel
theorem dX8_takeWord_68 : decode cX8_takeWord 68 = .ok (.if_icmp .gt 29, 3) := by decide +kernel
theorem dX8_takeWord_71 : decode cX8_takeWord 71 = .ok (.getstatic 112, 3) := by decide +kernel
theorem dX8_takeWord_74 : decode cX8_takeWord 74 = .ok (.iload_n 3, 1) := by decide +kernel
theorem dX8_takeWord_75 : decode cX8_takeWord 75 = .ok (.laload, 1) := by decide +kernel
theorem dX8_takeWord_76 : decode cX8_takeWord 76 = .ok (.lload_n 1, 1) := by decide +kernel
theorem dX8_takeWord_77 : decode cX8_takeWord 77 = .ok (.lcmp, 1) := by decide +kernel
theorem dX8_takeWord_78 : decode cX8_takeWord 78 = .ok (.ifCond .ne 13, 3) := by decide +kernel
theorem dX8_takeWord_81 : decode cX8_takeWord 81 = .ok (.aload_n 0, 1) := by decide +kernel
theorem dX8_takeWord_82 : decode cX8_takeWord 82 = .ok (.iconst 1, 1) := by decide +kernel
theorem dX8_takeWord_83 : decode cX8_takeWord 83 = .ok (.putfield 52, 3) := by decide +kernel
theorem dX8_takeWord_86 : decode cX8_takeWord 86 = .ok (.aload_n 0, 1) := by decide +kernel
theorem dX8_takeWord_87 : decode cX8_takeWord 87 = .ok (.iload_n 3, 1) := by decide +kernel
theorem dX8_takeWord_88 : decode cX8_takeWord 88 = .ok (.putfield 58, 3) := by decide +kernel
theorem dX8_takeWord_91 : decode cX8_takeWord 91 = .ok (.iinc 3 1, 3) := by decide +kernel
theorem dX8_takeWord_94 : decode cX8_takeWord 94 = .ok (.goto (-29), 3) := by decide +kernel
theorem dX8_takeWord_97 : decode cX8_takeWord 97 = .ok (.return_, 1) := by decide +kernel
def lw8 (w : Int64) (v : Int32) : Int64 := (w <<< ((nI 8).toInt64 &&& 63)) ||| v.toInt64
def xX8_takeWord_65 (w : Int64) : Nat → Int32 → j_M → Option (j_M)
  | 0, _, _ => none
  | n + 1, l3, M => (if (nI 12) < l3 then some M else gd l3 13 (if j_kws.getD (ix l3) 0 = w then oml (mw M 28 10 (nI 1)) fun M1 => oml (mw M1 28 11 l3) fun M2 => xX8_takeWord_65 w n (l3 + (nI 1)) M2 else xX8_takeWord_65 w n (l3 + (nI 1)) M))
set_option maxRecDepth 20000 in
set_option maxHeartbeats 2000000 in
theorem tX8_takeWord_65 (w : Int64) : ∀ (n : Nat) (l3 : Int32) (M : j_M), J2 (ρ := j_M) w [] yX8_takeWord cX8_takeWord 4 none 1 20 j_ev 65 [(0, .inr (13, 0, 28)), (3, .inl (l3))] [] M (xX8_takeWord_65 w n l3 M) := by
  intro n
  induction n with
  | zero => intros; exact J2_none
  | succ n ih =>
    intro l3 M
    rw [xX8_takeWord_65.eq_2]
    refine K2_iload_n (q := 66) 1 dX8_takeWord_65 rfl rfl rfl ?_
    refine K2_bipush (q := 68) (v := nI 12) dX8_takeWord_66 rfl rfl ?_
    refine K2_icmp_gt (q := 71) (tgt := 97) dX8_takeWord_68 rfl ?_ rfl ?_
    · exact J2_vret dX8_takeWord_97
    · refine J2_kw (q := 76) 1 dX8_takeWord_71 (j_in 743 (by decide +kernel) (by decide +kernel)) dX8_takeWord_74 rfl dX8_takeWord_75 rfl ?_
      refine J2_lload (q := 77) dX8_takeWord_76 rfl ?_
      refine J2_lcmp (q := 81) (tgt := 91) dX8_takeWord_77 dX8_takeWord_78 rfl ?_ rfl ?_
      · refine K2_iinc (q := 94) (v := l3 + (nI 1)) (ll' := [(3, .inl (l3 + (nI 1))), (0, .inr (13, 0, 28))]) 1 dX8_takeWord_91 rfl rfl (by decide) (by decide) (by decide) rfl rfl ?_
        refine J2_goto (tgt := 65) dX8_takeWord_94 rfl ?_
        exact J2_sub [1, 0] (ih (l3 + (nI 1)) M) rfl
      · refine K2_aload_n (q := 82) 0 dX8_takeWord_81 rfl rfl rfl ?_
        refine K2_iconst (q := 83) (v := nI 1) dX8_takeWord_82 rfl rfl ?_
        refine K2_putI (q := 86) (ci := 3) 10 dX8_takeWord_83 fRX8_52 fp_3_10 rfl rfl (by decide) rfl (fun M1 => ?_)
        refine K2_aload_n (q := 87) 0 dX8_takeWord_86 rfl rfl rfl ?_
        refine K2_iload_n (q := 88) 1 dX8_takeWord_87 rfl rfl rfl ?_
        refine K2_putI (q := 91) (ci := 3) 11 dX8_takeWord_88 fRX8_58 fp_3_11 rfl rfl (by decide) rfl (fun M2 => ?_)
        refine K2_iinc (q := 94) (v := l3 + (nI 1)) (ll' := [(3, .inl (l3 + (nI 1))), (0, .inr (13, 0, 28))]) 1 dX8_takeWord_91 rfl rfl (by decide) (by decide) (by decide) rfl rfl ?_
        refine J2_goto (tgt := 65) dX8_takeWord_94 rfl ?_
        exact J2_sub [1, 0] (ih (l3 + (nI 1)) M2) rfl
def xX8_takeWord_57 (w : Int64) (M : j_M) : Option (j_M) := oml (mw M 28 10 (nI 6)) fun M1 => xX8_takeWord_65 w fu (nI 1) M1
set_option maxRecDepth 20000 in
set_option maxHeartbeats 2000000 in
theorem tX8_takeWord_57 (w : Int64) (M : j_M) : J2 (ρ := j_M) w [] yX8_takeWord cX8_takeWord 4 none 1 20 j_ev 57 [(0, .inr (13, 0, 28))] [] M (xX8_takeWord_57 w M) := by
  unfold xX8_takeWord_57
  refine K2_aload_n (q := 58) 0 dX8_takeWord_57 rfl rfl rfl ?_
  refine K2_bipush (q := 60) (v := nI 6) dX8_takeWord_58 rfl rfl ?_
  refine K2_putI (q := 63) (ci := 3) 10 dX8_takeWord_60 fRX8_52 fp_3_10 rfl rfl (by decide) rfl (fun M1 => ?_)
  refine K2_iconst (q := 64) (v := nI 1) dX8_takeWord_63 rfl rfl ?_
  refine K2_istore_n (q := 65) (ll' := [(3, .inl (nI 1)), (0, .inr (13, 0, 28))]) dX8_takeWord_64 rfl (by decide) (by decide) (by decide) rfl rfl ?_
  exact J2_sub [1, 0] (tX8_takeWord_65 w fu (nI 1) M1) rfl
def xX8_takeWord_2 : Nat → Int64 → j_M → Option (j_M)
  | 0, _, _ => none
  | n + 1, w, M => oli (M 28 9) fun v1 => oli (M 28 4) fun v2 => (if v2 ≤ v1 then xX8_takeWord_57 w M else oli (M 28 9) fun v3 => gd v3 400 (oli (M 29 (ix v3)) fun v4 => obi (xX8_isLetter v4 M) fun v6 M5 => (if v6 = (0 : Int32) then xX8_takeWord_57 w M5 else oli (M5 28 9) fun v7 => gd v7 400 (oli (M5 29 (ix v7)) fun v8 => oli (M5 28 9) fun v9 => oml (mw M5 28 9 (v9 + (nI 1))) fun M8 => xX8_takeWord_2 n (lw8 w v8) M8))))
set_option maxRecDepth 20000 in
set_option maxHeartbeats 2000000 in
theorem tX8_takeWord_2 : ∀ (n : Nat) (w : Int64) (M : j_M), J2 (ρ := j_M) w [] yX8_takeWord cX8_takeWord 4 none 1 20 j_ev 2 [(0, .inr (13, 0, 28))] [] M (xX8_takeWord_2 n w M) := by
  intro n
  induction n with
  | zero => intros; exact J2_none
  | succ n ih =>
    intro w M
    rw [xX8_takeWord_2.eq_2]
    refine K2_aload_n (q := 3) 0 dX8_takeWord_2 rfl rfl rfl ?_
    refine K2_getI (q := 6) (ci := 3) 9 dX8_takeWord_3 fRX8_37 rfl rfl rfl (fun v1 => ?_)
    refine K2_aload_n (q := 7) 0 dX8_takeWord_6 rfl rfl rfl ?_
    refine K2_getI (q := 10) (ci := 3) 4 dX8_takeWord_7 fRX8_28 rfl rfl rfl (fun v2 => ?_)
    refine K2_icmp_ge (q := 13) (tgt := 57) dX8_takeWord_10 rfl ?_ rfl ?_
    · exact J2_sub [0] (tX8_takeWord_57 w M) rfl
    · refine K2_aload_n (q := 14) 0 dX8_takeWord_13 rfl rfl rfl ?_
      refine K2_getR (q := 17) (ci := 3) (a2 := 29) 0 dX8_takeWord_14 fRX8_11 rfl rfl (by decide) rfl rfl ?_
      refine K2_aload_n (q := 18) 0 dX8_takeWord_17 rfl rfl rfl ?_
      refine K2_getI (q := 21) (ci := 3) 9 dX8_takeWord_18 fRX8_37 rfl rfl rfl (fun v3 => ?_)
      refine K2_iald (q := 22) dX8_takeWord_21 rfl (fun v4 => ?_)
      refine K2_csi (q := 25) [.inl (v4)] dX8_takeWord_22 cb_X8_isLetter cvRX8_99 rfl (Nat.le_of_ble_eq_true rfl) ⟨by decide, by decide⟩ (Nat.le_of_ble_eq_true rfl) rfl (tX8_isLetter v4 M) rfl (fun v6 M5 => ?_)
      refine K2_if_eq (q := 28) (tgt := 57) dX8_takeWord_25 rfl ?_ rfl ?_
      · exact J2_sub [0] (tX8_takeWord_57 w M5) rfl
      · refine J2_lload (q := 29) dX8_takeWord_28 rfl ?_
        refine K2_bipush (q := 31) (v := nI 8) dX8_takeWord_29 rfl rfl ?_
        refine J2_lshl (q := 32) dX8_takeWord_31 rfl ?_
        refine K2_aload_n (q := 33) 0 dX8_takeWord_32 rfl rfl rfl ?_
        refine K2_getR (q := 36) (ci := 3) (a2 := 29) 0 dX8_takeWord_33 fRX8_11 rfl rfl (by decide) rfl rfl ?_
        refine K2_aload_n (q := 37) 0 dX8_takeWord_36 rfl rfl rfl ?_
        refine K2_getI (q := 40) (ci := 3) 9 dX8_takeWord_37 fRX8_37 rfl rfl rfl (fun v7 => ?_)
        refine K2_iald (q := 41) dX8_takeWord_40 rfl (fun v8 => ?_)
        refine J2_i2l (q := 42) dX8_takeWord_41 rfl ?_
        refine J2_lor (q := 43) dX8_takeWord_42 rfl ?_
        refine J2_lstore (q := 44) dX8_takeWord_43 (by decide) rfl ?_
        refine K2_aload_n (q := 45) 0 dX8_takeWord_44 rfl rfl rfl ?_
        refine K2_dup (q := 46) dX8_takeWord_45 rfl ?_
        refine K2_getI (q := 49) (ci := 3) 9 dX8_takeWord_46 fRX8_37 rfl rfl rfl (fun v9 => ?_)
        refine K2_iconst (q := 50) (v := nI 1) dX8_takeWord_49 rfl rfl ?_
        refine K2_iadd (q := 51) dX8_takeWord_50 rfl ?_
        refine K2_putI (q := 54) (ci := 3) 9 dX8_takeWord_51 fRX8_37 fp_3_9 rfl rfl (by decide) rfl (fun M8 => ?_)
        refine J2_goto (tgt := 2) dX8_takeWord_54 rfl ?_
        exact J2_sub [0] (ih (lw8 w v8) M8) rfl
def xX8_takeWord (M : j_M) : Option (j_M) := xX8_takeWord_2 fu 0 M
theorem tX8_takeWord (M : j_M) : J (ρ := j_M) yX8_takeWord cX8_takeWord 4 none 1 20 j_ev 0 [(0, .inr (13, 0, 28))] [] M (xX8_takeWord M) := by
  unfold xX8_takeWord
  refine J_ls0 (q := 2) dX8_takeWord_0 dX8_takeWord_1 (by decide) rfl ?_
  exact tX8_takeWord_2 fu 0 M
theorem dX8_readToken_0 : decode cX8_readToken 0 = .ok (.aload_n 0, 1) := by decide +kernel
theorem dX8_readToken_1 : decode cX8_readToken 1 = .ok (.getfield 37, 3) := by decide +kernel
theorem dX8_readToken_4 : decode cX8_readToken 4 = .ok (.aload_n 0, 1) := by decide +kernel
theorem dX8_readToken_5 : decode cX8_readToken 5 = .ok (.getfield 28, 3) := by decide +kernel
theorem dX8_readToken_8 : decode cX8_readToken 8 = .ok (.if_icmp .ge 44, 3) := by decide +kernel
theorem dX8_readToken_11 : decode cX8_readToken 11 = .ok (.aload_n 0, 1) := by decide +kernel
theorem dX8_readToken_12 : decode cX8_readToken 12 = .ok (.getfield 11, 3) := by decide +kernel
theorem dX8_readToken_15 : decode cX8_readToken 15 = .ok (.aload_n 0, 1) := by decide +kernel
theorem dX8_readToken_16 : decode cX8_readToken 16 = .ok (.getfield 37, 3) := by decide +kernel
theorem dX8_readToken_19 : decode cX8_readToken 19 = .ok (.iaload, 1) := by decide +kernel
theorem dX8_readToken_20 : decode cX8_readToken 20 = .ok (.bipush 32, 2) := by decide +kernel
theorem dX8_readToken_22 : decode cX8_readToken 22 = .ok (.if_icmp .eq 17, 3) := by decide +kernel
theorem dX8_readToken_25 : decode cX8_readToken 25 = .ok (.aload_n 0, 1) := by decide +kernel
theorem dX8_readToken_26 : decode cX8_readToken 26 = .ok (.getfield 11, 3) := by decide +kernel
theorem dX8_readToken_29 : decode cX8_readToken 29 = .ok (.aload_n 0, 1) := by decide +kernel
theorem dX8_readToken_30 : decode cX8_readToken 30 = .ok (.getfield 37, 3) := by decide +kernel
theorem dX8_readToken_33 : decode cX8_readToken 33 = .ok (.iaload, 1) := by decide +kernel
theorem dX8_readToken_34 : decode cX8_readToken 34 = .ok (.bipush 10, 2) := by decide +kernel
theorem dX8_readToken_36 : decode cX8_readToken 36 = .ok (.if_icmp .ne 16, 3) := by decide +kernel
theorem dX8_readToken_39 : decode cX8_readToken 39 = .ok (.aload_n 0, 1) := by decide +kernel
theorem dX8_readToken_40 : decode cX8_readToken 40 = .ok (.dup, 1) := by decide +kernel
theorem dX8_readToken_41 : decode cX8_readToken 41 = .ok (.getfield 37, 3) := by decide +kernel
theorem dX8_readToken_44 : decode cX8_readToken 44 = .ok (.iconst 1, 1) := by decide +kernel
theorem dX8_readToken_45 : decode cX8_readToken 45 = .ok (.iadd, 1) := by decide +kernel
theorem dX8_readToken_46 : decode cX8_readToken 46 = .ok (.putfield 37, 3) := by decide +kernel
theorem dX8_readToken_49 : decode cX8_readToken 49 = .ok (.goto (-49), 3) := by decide +kernel
theorem dX8_readToken_52 : decode cX8_readToken 52 = .ok (.aload_n 0, 1) := by decide +kernel
theorem dX8_readToken_53 : decode cX8_readToken 53 = .ok (.aload_n 0, 1) := by decide +kernel
theorem dX8_readToken_54 : decode cX8_readToken 54 = .ok (.getfield 37, 3) := by decide +kernel
theorem dX8_readToken_57 : decode cX8_readToken 57 = .ok (.putfield 34, 3) := by decide +kernel
theorem dX8_readToken_60 : decode cX8_readToken 60 = .ok (.aload_n 0, 1) := by decide +kernel
theorem dX8_readToken_61 : decode cX8_readToken 61 = .ok (.getfield 37, 3) := by decide +kernel
theorem dX8_readToken_64 : decode cX8_readToken 64 = .ok (.aload_n 0, 1) := by decide +kernel
theorem dX8_readToken_65 : decode cX8_readToken 65 = .ok (.getfield 28, 3) := by decide +kernel
theorem dX8_readToken_68 : decode cX8_readToken 68 = .ok (.if_icmp .lt 9, 3) := by decide +kernel
theorem dX8_readToken_71 : decode cX8_readToken 71 = .ok (.aload_n 0, 1) := by decide +kernel
theorem dX8_readToken_72 : decode cX8_readToken 72 = .ok (.iconst 0, 1) := by decide +kernel
theorem dX8_readToken_73 : decode cX8_readToken 73 = .ok (.putfield 52, 3) := by decide +kernel
theorem dX8_readToken_76 : decode cX8_readToken 76 = .ok (.return_, 1) := by decide +kernel
theorem dX8_readToken_77 : decode cX8_readToken 77 = .ok (.aload_n 0, 1) := by decide +kernel
theorem dX8_readToken_78 : decode cX8_readToken 78 = .ok (.getfield 11, 3) := by decide +kernel
theorem dX8_readToken_81 : decode cX8_readToken 81 = .ok (.aload_n 0, 1) := by decide +kernel
theorem dX8_readToken_82 : decode cX8_readToken 82 = .ok (.getfield 37, 3) := by decide +kernel
theorem dX8_readToken_85 : decode cX8_readToken 85 = .ok (.iaload, 1) := by decide +kernel
theorem dX8_readToken_86 : decode cX8_readToken 86 = .ok (.istore_n 1, 1) := by decide +kernel
theorem dX8_readToken_87 : decode cX8_readToken 87 = .ok (.iload_n 1, 1) := by decide +kernel
theorem dX8_readToken_88 : decode cX8_readToken 88 = .ok (.invokestatic 99, 3) := by decide +kernel
theorem dX8_readToken_91 : decode cX8_readToken 91 = .ok (.ifCond .eq 10, 3) := by decide +kernel
theorem dX8_readToken_94 : decode cX8_readToken 94 = .ok (.aload_n 0, 1) := by decide +kernel
theorem dX8_readToken_95 : decode cX8_readToken 95 = .ok (.invokevirtual 103, 3) := by decide +kernel
theorem dX8_readToken_98 : decode cX8_readToken 98 = .ok (.goto 63, 3) := by decide +kernel
theorem dX8_readToken_101 : decode cX8_readToken 101 = .ok (.iload_n 1, 1) := by decide +kernel
theorem dX8_readToken_102 : decode cX8_readToken 102 = .ok (.invokestatic 106, 3) := by decide +kernel
theorem dX8_readToken_105 : decode cX8_readToken 105 = .ok (.ifCond .eq 10, 3) := by decide +kernel
theorem dX8_readToken_108 : decode cX8_readToken 108 = .ok (.aload_n 0, 1) := by decide +kernel
theorem dX8_readToken_109 : decode cX8_readToken 109 = .ok (.invokevirtual 109, 3) := by decide +kernel
theorem dX8_readToken_112 : decode cX8_readToken 112 = .ok (.goto 49, 3) := by decide +kernel
theorem dX8_readToken_115 : decode cX8_readToken 115 = .ok (.aload_n 0, 1) := by decide +kernel
theorem dX8_readToken_116 : decode cX8_readToken 116 = .ok (.dup, 1) := by decide +kernel
theorem dX8_readToken_117 : decode cX8_readToken 117 = .ok (.getfield 37, 3) := by decide +kernel
theorem dX8_readToken_120 : decode cX8_readToken 120 = .ok (.iconst 1, 1) := by decide +kernel
theorem dX8_readToken_121 : decode cX8_readToken 121 = .ok (.iadd, 1) := by decide +kernel
theorem dX8_readToken_122 : decode cX8_readToken 122 = .ok (.putfield 37, 3) := by decide +kernel
theorem dX8_readToken_125 : decode cX8_readToken 125 = .ok (.aload_n 0, 1) := by decide +kernel
theorem dX8_readToken_126 : decode cX8_readToken 126 = .ok (.iload_n 1, 1) := by decide +kernel
theorem dX8_readToken_127 : decode cX8_readToken 127 = .ok (.bipush 59, 2) := by decide +kernel
theorem dX8_readToken_129 : decode cX8_readToken 129 = .ok (.if_icmp .ne 7, 3) := by decide +kernel
theorem dX8_readToken_132 : decode cX8_readToken 132 = .ok (.iconst 3, 1) := by decide +kernel
theorem dX8_readToken_133 : decode cX8_readToken 133 = .ok (.goto 25, 3) := by decide +kernel
theorem dX8_readToken_136 : decode cX8_readToken 136 = .ok (.iload_n 1, 1) := by decide +kernel
theorem dX8_readToken_137 : decode cX8_readToken 137 = .ok (.bipush 123, 2) := by decide +kernel
theorem dX8_readToken_139 : decode cX8_readToken 139 = .ok (.if_icmp .ne 7, 3) := by decide +kernel
theorem dX8_readToken_142 : decode cX8_readToken 142 = .ok (.iconst 4, 1) := by decide +kernel
theorem dX8_readToken_143 : decode cX8_readToken 143 = .ok (.goto 15, 3) := by decide +kernel
theorem dX8_readToken_146 : decode cX8_readToken 146 = .ok (.iload_n 1, 1) := by decide +kernel
theorem dX8_readToken_147 : decode cX8_readToken 147 = .ok (.bipush 125, 2) := by decide +kernel
theorem dX8_readToken_149 : decode cX8_readToken 149 = .ok (.if_icmp .ne 7, 3) := by decide +kernel
theorem dX8_readToken_152 : decode cX8_readToken 152 = .ok (.iconst 5, 1) := by decide +kernel
theorem dX8_readToken_153 : decode cX8_readToken 153 = .ok (.goto 5, 3) := by decide +kernel
theorem dX8_readToken_156 : decode cX8_readToken 156 = .ok (.bipush 6, 2) := by decide +kernel
theorem dX8_readToken_158 : decode cX8_readToken 158 = .ok (.putfield 52, 3) := by decide +kernel
theorem dX8_readToken_161 : decode cX8_readToken 161 = .ok (.return_, 1) := by decide +kernel
def xX8_readToken_158   (s0 : Int32) (M : j_M) : Option (j_M) := oml (mw M 28 10 s0) fun M1 => some M1
set_option maxRecDepth 20000 in
set_option maxHeartbeats 2000000 in
theorem tX8_readToken_158    (s0 : Int32) (M : j_M) : J (ρ := j_M) yX8_readToken cX8_readToken 2 none 2 43 j_ev 158 [] [.inl (s0), .inr (13, 0, 28)] M (xX8_readToken_158  s0 M) := by
  unfold xX8_readToken_158
  refine K_putI (q := 161) (ci := 3) 10 dX8_readToken_158 fRX8_52 fp_3_10 rfl rfl (by decide) rfl (fun M1 => ?_)
  exact J_vret dX8_readToken_161
def xX8_readToken_52    (M : j_M) : Option (j_M) := oli (M 28 9) fun v1 => oml (mw M 28 12 v1) fun M2 => oli (M2 28 9) fun v3 => oli (M2 28 4) fun v4 => (if v3 < v4 then oli (M2 28 9) fun v5 => gd v5 400 (oli (M2 29 (ix v5)) fun v6 => obi (xX8_isLetter v6 M2) fun v8 M7 => (if v8 = (0 : Int32) then obi (xX8_isDigit v6 M7) fun v10 M9 => (if v10 = (0 : Int32) then oli (M9 28 9) fun v11 => oml (mw M9 28 9 (v11 + (nI 1))) fun M12 => (if v6 = (nI 59) then xX8_readToken_158  (nI 3) M12 else (if v6 = (nI 123) then xX8_readToken_158  (nI 4) M12 else (if v6 = (nI 125) then xX8_readToken_158  (nI 5) M12 else xX8_readToken_158  (nI 6) M12))) else obv (xX8_takeDigits M9) fun M13 => some M13) else obv (xX8_takeWord M7) fun M14 => some M14)) else oml (mw M2 28 10 (nI 0)) fun M15 => some M15)
set_option maxRecDepth 20000 in
set_option maxHeartbeats 2000000 in
theorem tX8_readToken_52     (M : j_M) : J (ρ := j_M) yX8_readToken cX8_readToken 2 none 2 43 j_ev 52 [(0, .inr (13, 0, 28))] [] M (xX8_readToken_52   M) := by
  unfold xX8_readToken_52
  refine K_aload_n (q := 53) 0 dX8_readToken_52 rfl rfl rfl ?_
  refine K_aload_n (q := 54) 0 dX8_readToken_53 rfl rfl rfl ?_
  refine K_getI (q := 57) (ci := 3) 9 dX8_readToken_54 fRX8_37 rfl rfl rfl (fun v1 => ?_)
  refine K_putI (q := 60) (ci := 3) 12 dX8_readToken_57 fRX8_34 fp_3_12 rfl rfl (by decide) rfl (fun M2 => ?_)
  refine K_aload_n (q := 61) 0 dX8_readToken_60 rfl rfl rfl ?_
  refine K_getI (q := 64) (ci := 3) 9 dX8_readToken_61 fRX8_37 rfl rfl rfl (fun v3 => ?_)
  refine K_aload_n (q := 65) 0 dX8_readToken_64 rfl rfl rfl ?_
  refine K_getI (q := 68) (ci := 3) 4 dX8_readToken_65 fRX8_28 rfl rfl rfl (fun v4 => ?_)
  refine K_icmp_lt (q := 71) (tgt := 77) dX8_readToken_68 rfl ?_ rfl ?_
  · refine K_aload_n (q := 78) 0 dX8_readToken_77 rfl rfl rfl ?_
    refine K_getR (q := 81) (ci := 3) (a2 := 29) 0 dX8_readToken_78 fRX8_11 rfl rfl (by decide) rfl rfl ?_
    refine K_aload_n (q := 82) 0 dX8_readToken_81 rfl rfl rfl ?_
    refine K_getI (q := 85) (ci := 3) 9 dX8_readToken_82 fRX8_37 rfl rfl rfl (fun v5 => ?_)
    refine K_iald (q := 86) dX8_readToken_85 rfl (fun v6 => ?_)
    refine K_istore_n (q := 87) (ll' := [(1, .inl (v6)), (0, .inr (13, 0, 28))]) dX8_readToken_86 rfl (by decide) rfl rfl ?_
    refine K_iload_n (q := 88) 0 dX8_readToken_87 rfl rfl rfl ?_
    refine K_csi (q := 91) [.inl (v6)] dX8_readToken_88 cb_X8_isLetter cvRX8_99 rfl (Nat.le_of_ble_eq_true rfl) ⟨by decide, by decide⟩ (Nat.le_of_ble_eq_true rfl) rfl (tX8_isLetter v6 M2) rfl (fun v8 M7 => ?_)
    refine K_if_eq (q := 94) (tgt := 101) dX8_readToken_91 rfl ?_ rfl ?_
    · refine K_iload_n (q := 102) 0 dX8_readToken_101 rfl rfl rfl ?_
      refine K_csi (q := 105) [.inl (v6)] dX8_readToken_102 cb_X8_isDigit cvRX8_106 rfl (Nat.le_of_ble_eq_true rfl) ⟨by decide, by decide⟩ (Nat.le_of_ble_eq_true rfl) rfl (tX8_isDigit v6 M7) rfl (fun v10 M9 => ?_)
      refine K_if_eq (q := 108) (tgt := 115) dX8_readToken_105 rfl ?_ rfl ?_
      · refine K_aload_n (q := 116) 1 dX8_readToken_115 rfl rfl rfl ?_
        refine K_dup (q := 117) dX8_readToken_116 rfl ?_
        refine K_getI (q := 120) (ci := 3) 9 dX8_readToken_117 fRX8_37 rfl rfl rfl (fun v11 => ?_)
        refine K_iconst (q := 121) (v := nI 1) dX8_readToken_120 rfl rfl ?_
        refine K_iadd (q := 122) dX8_readToken_121 rfl ?_
        refine K_putI (q := 125) (ci := 3) 9 dX8_readToken_122 fRX8_37 fp_3_9 rfl rfl (by decide) rfl (fun M12 => ?_)
        refine K_aload_n (q := 126) 1 dX8_readToken_125 rfl rfl rfl ?_
        refine K_iload_n (q := 127) 0 dX8_readToken_126 rfl rfl rfl ?_
        refine K_bipush (q := 129) (v := nI 59) dX8_readToken_127 rfl rfl ?_
        refine K_icmp_ne (q := 132) (tgt := 136) dX8_readToken_129 rfl ?_ rfl ?_
        · refine K_iload_n (q := 137) 0 dX8_readToken_136 rfl rfl rfl ?_
          refine K_bipush (q := 139) (v := nI 123) dX8_readToken_137 rfl rfl ?_
          refine K_icmp_ne (q := 142) (tgt := 146) dX8_readToken_139 rfl ?_ rfl ?_
          · refine K_iload_n (q := 147) 0 dX8_readToken_146 rfl rfl rfl ?_
            refine K_bipush (q := 149) (v := nI 125) dX8_readToken_147 rfl rfl ?_
            refine K_icmp_ne (q := 152) (tgt := 156) dX8_readToken_149 rfl ?_ rfl ?_
            · refine K_bipush (q := 158) (v := nI 6) dX8_readToken_156 rfl rfl ?_
              exact J_sub [] (tX8_readToken_158  (nI 6) M12) rfl
            · refine K_iconst (q := 153) (v := nI 5) dX8_readToken_152 rfl rfl ?_
              refine J_goto (tgt := 158) dX8_readToken_153 rfl ?_
              exact J_sub [] (tX8_readToken_158  (nI 5) M12) rfl
          · refine K_iconst (q := 143) (v := nI 4) dX8_readToken_142 rfl rfl ?_
            refine J_goto (tgt := 158) dX8_readToken_143 rfl ?_
            exact J_sub [] (tX8_readToken_158  (nI 4) M12) rfl
        · refine K_iconst (q := 133) (v := nI 3) dX8_readToken_132 rfl rfl ?_
          refine J_goto (tgt := 158) dX8_readToken_133 rfl ?_
          exact J_sub [] (tX8_readToken_158  (nI 3) M12) rfl
      · refine K_aload_n (q := 109) 1 dX8_readToken_108 rfl rfl rfl ?_
        refine K_cvv (q := 112) [] dX8_readToken_109 cb_X8_takeDigits cvRX8_109 rc_3 (show (13 : Nat) ≠ 0 by decide) rfl (Nat.le_of_ble_eq_true rfl) ⟨by decide, by decide⟩ (Nat.le_of_ble_eq_true rfl) rfl (tX8_takeDigits M9) rfl (fun M13 => ?_)
        refine J_goto (tgt := 161) dX8_readToken_112 rfl ?_
        exact J_vret dX8_readToken_161
    · refine K_aload_n (q := 95) 1 dX8_readToken_94 rfl rfl rfl ?_
      refine K_cvv (q := 98) [] dX8_readToken_95 cb_X8_takeWord cvRX8_103 rc_3 (show (13 : Nat) ≠ 0 by decide) rfl (Nat.le_of_ble_eq_true rfl) ⟨by decide, by decide⟩ (Nat.le_of_ble_eq_true rfl) rfl (tX8_takeWord M7) rfl (fun M14 => ?_)
      refine J_goto (tgt := 161) dX8_readToken_98 rfl ?_
      exact J_vret dX8_readToken_161
  · refine K_aload_n (q := 72) 0 dX8_readToken_71 rfl rfl rfl ?_
    refine K_iconst (q := 73) (v := nI 0) dX8_readToken_72 rfl rfl ?_
    refine K_putI (q := 76) (ci := 3) 10 dX8_readToken_73 fRX8_52 fp_3_10 rfl rfl (by decide) rfl (fun M15 => ?_)
    exact J_vret dX8_readToken_76
def xX8_readToken_39 (k0 : j_M → Option (j_M))   (M : j_M) : Option (j_M) := oli (M 28 9) fun v1 => oml (mw M 28 9 (v1 + (nI 1))) fun M2 => k0 M2
set_option maxRecDepth 20000 in
set_option maxHeartbeats 2000000 in
theorem tX8_readToken_39 (k0 : j_M → Option (j_M))  (hk0 : ∀ (M : j_M), J (ρ := j_M) yX8_readToken cX8_readToken 2 none 2 43 j_ev 0 [(0, .inr (13, 0, 28))] [] M (k0  M))  (M : j_M) : J (ρ := j_M) yX8_readToken cX8_readToken 2 none 2 43 j_ev 39 [(0, .inr (13, 0, 28))] [] M (xX8_readToken_39 k0  M) := by
  unfold xX8_readToken_39
  refine K_aload_n (q := 40) 0 dX8_readToken_39 rfl rfl rfl ?_
  refine K_dup (q := 41) dX8_readToken_40 rfl ?_
  refine K_getI (q := 44) (ci := 3) 9 dX8_readToken_41 fRX8_37 rfl rfl rfl (fun v1 => ?_)
  refine K_iconst (q := 45) (v := nI 1) dX8_readToken_44 rfl rfl ?_
  refine K_iadd (q := 46) dX8_readToken_45 rfl ?_
  refine K_putI (q := 49) (ci := 3) 9 dX8_readToken_46 fRX8_37 fp_3_9 rfl rfl (by decide) rfl (fun M2 => ?_)
  refine J_goto (tgt := 0) dX8_readToken_49 rfl ?_
  exact J_sub [0] (hk0 M2) rfl
def xX8_readToken_0   : Nat → j_M → Option (j_M)
  | 0, _ => none
  | n + 1, M => oli (M 28 9) fun v1 => oli (M 28 4) fun v2 => (if v2 ≤ v1 then xX8_readToken_52  M else oli (M 28 9) fun v3 => gd v3 400 (oli (M 29 (ix v3)) fun v4 => (if v4 = (nI 32) then xX8_readToken_39 (xX8_readToken_0  n) M else oli (M 28 9) fun v5 => gd v5 400 (oli (M 29 (ix v5)) fun v6 => (if v6 = (nI 10) then xX8_readToken_39 (xX8_readToken_0  n) M else xX8_readToken_52  M)))))
set_option maxRecDepth 20000 in
set_option maxHeartbeats 2000000 in
theorem tX8_readToken_0    : ∀ (n : Nat) (M : j_M), J (ρ := j_M) yX8_readToken cX8_readToken 2 none 2 43 j_ev 0 [(0, .inr (13, 0, 28))] [] M (xX8_readToken_0  n  M) := by
  intro n
  induction n with
  | zero => intros; exact J_none
  | succ n ih =>
    intro  M
    rw [xX8_readToken_0.eq_2]
    refine K_aload_n (q := 1) 0 dX8_readToken_0 rfl rfl rfl ?_
    refine K_getI (q := 4) (ci := 3) 9 dX8_readToken_1 fRX8_37 rfl rfl rfl (fun v1 => ?_)
    refine K_aload_n (q := 5) 0 dX8_readToken_4 rfl rfl rfl ?_
    refine K_getI (q := 8) (ci := 3) 4 dX8_readToken_5 fRX8_28 rfl rfl rfl (fun v2 => ?_)
    refine K_icmp_ge (q := 11) (tgt := 52) dX8_readToken_8 rfl ?_ rfl ?_
    · exact J_sub [0] (tX8_readToken_52  M) rfl
    · refine K_aload_n (q := 12) 0 dX8_readToken_11 rfl rfl rfl ?_
      refine K_getR (q := 15) (ci := 3) (a2 := 29) 0 dX8_readToken_12 fRX8_11 rfl rfl (by decide) rfl rfl ?_
      refine K_aload_n (q := 16) 0 dX8_readToken_15 rfl rfl rfl ?_
      refine K_getI (q := 19) (ci := 3) 9 dX8_readToken_16 fRX8_37 rfl rfl rfl (fun v3 => ?_)
      refine K_iald (q := 20) dX8_readToken_19 rfl (fun v4 => ?_)
      refine K_bipush (q := 22) (v := nI 32) dX8_readToken_20 rfl rfl ?_
      refine K_icmp_eq (q := 25) (tgt := 39) dX8_readToken_22 rfl ?_ rfl ?_
      · exact J_sub [0] (tX8_readToken_39 (xX8_readToken_0  n) ih M) rfl
      · refine K_aload_n (q := 26) 0 dX8_readToken_25 rfl rfl rfl ?_
        refine K_getR (q := 29) (ci := 3) (a2 := 29) 0 dX8_readToken_26 fRX8_11 rfl rfl (by decide) rfl rfl ?_
        refine K_aload_n (q := 30) 0 dX8_readToken_29 rfl rfl rfl ?_
        refine K_getI (q := 33) (ci := 3) 9 dX8_readToken_30 fRX8_37 rfl rfl rfl (fun v5 => ?_)
        refine K_iald (q := 34) dX8_readToken_33 rfl (fun v6 => ?_)
        refine K_bipush (q := 36) (v := nI 10) dX8_readToken_34 rfl rfl ?_
        refine K_icmp_ne (q := 39) (tgt := 52) dX8_readToken_36 rfl ?_ rfl ?_
        · exact J_sub [0] (tX8_readToken_52  M) rfl
        · exact J_sub [0] (tX8_readToken_39 (xX8_readToken_0  n) ih M) rfl
def xX8_readToken   (M : j_M) : Option (j_M) := xX8_readToken_0 fu M
set_option maxRecDepth 20000 in
set_option maxHeartbeats 2000000 in
theorem tX8_readToken   (M : j_M) : J (ρ := j_M) yX8_readToken cX8_readToken 2 none 2 43 j_ev 0 [(0, .inr (13, 0, 28))] [] M (xX8_readToken   M) := by
  unfold xX8_readToken
  exact J_sub [0] (tX8_readToken_0 fu M) rfl
theorem dX8_refuse_0 : decode cX8_refuse 0 = .ok (.aload_n 0, 1) := by decide +kernel
theorem dX8_refuse_1 : decode cX8_refuse 1 = .ok (.iload_n 1, 1) := by decide +kernel
theorem dX8_refuse_2 : decode cX8_refuse 2 = .ok (.putfield 31, 3) := by decide +kernel
theorem dX8_refuse_5 : decode cX8_refuse 5 = .ok (.aload_n 0, 1) := by decide +kernel
theorem dX8_refuse_6 : decode cX8_refuse 6 = .ok (.aload_n 0, 1) := by decide +kernel
theorem dX8_refuse_7 : decode cX8_refuse 7 = .ok (.getfield 34, 3) := by decide +kernel
theorem dX8_refuse_10 : decode cX8_refuse 10 = .ok (.putfield 24, 3) := by decide +kernel
theorem dX8_refuse_13 : decode cX8_refuse 13 = .ok (.return_, 1) := by decide +kernel
def xX8_refuse  (l1 : Int32) (M : j_M) : Option (j_M) := oml (mw M 28 5 l1) fun M1 => oli (M1 28 12) fun v2 => oml (mw M1 28 6 v2) fun M3 => some M3
set_option maxRecDepth 20000 in
set_option maxHeartbeats 2000000 in
theorem tX8_refuse  (l1 : Int32) (M : j_M) : J (ρ := j_M) yX8_refuse cX8_refuse 2 none 0 0 j_ev 0 [(0, .inr (13, 0, 28)), (1, .inl (l1))] [] M (xX8_refuse  l1 M) := by
  unfold xX8_refuse
  refine K_aload_n (q := 1) 0 dX8_refuse_0 rfl rfl rfl ?_
  refine K_iload_n (q := 2) 1 dX8_refuse_1 rfl rfl rfl ?_
  refine K_putI (q := 5) (ci := 3) 5 dX8_refuse_2 fRX8_31 fp_3_5 rfl rfl (by decide) rfl (fun M1 => ?_)
  refine K_aload_n (q := 6) 0 dX8_refuse_5 rfl rfl rfl ?_
  refine K_aload_n (q := 7) 0 dX8_refuse_6 rfl rfl rfl ?_
  refine K_getI (q := 10) (ci := 3) 12 dX8_refuse_7 fRX8_34 rfl rfl rfl (fun v2 => ?_)
  refine K_putI (q := 13) (ci := 3) 6 dX8_refuse_10 fRX8_24 fp_3_6 rfl rfl (by decide) rfl (fun M3 => ?_)
  exact J_vret dX8_refuse_13
theorem dX8_expect_0 : decode cX8_expect 0 = .ok (.aload_n 0, 1) := by decide +kernel
theorem dX8_expect_1 : decode cX8_expect 1 = .ok (.getfield 31, 3) := by decide +kernel
theorem dX8_expect_4 : decode cX8_expect 4 = .ok (.ifCond .eq 4, 3) := by decide +kernel
theorem dX8_expect_7 : decode cX8_expect 7 = .ok (.return_, 1) := by decide +kernel
theorem dX8_expect_8 : decode cX8_expect 8 = .ok (.aload_n 0, 1) := by decide +kernel
theorem dX8_expect_9 : decode cX8_expect 9 = .ok (.invokevirtual 49, 3) := by decide +kernel
theorem dX8_expect_12 : decode cX8_expect 12 = .ok (.aload_n 0, 1) := by decide +kernel
theorem dX8_expect_13 : decode cX8_expect 13 = .ok (.getfield 52, 3) := by decide +kernel
theorem dX8_expect_16 : decode cX8_expect 16 = .ok (.iload_n 1, 1) := by decide +kernel
theorem dX8_expect_17 : decode cX8_expect 17 = .ok (.if_icmp .eq 8, 3) := by decide +kernel
theorem dX8_expect_20 : decode cX8_expect 20 = .ok (.aload_n 0, 1) := by decide +kernel
theorem dX8_expect_21 : decode cX8_expect 21 = .ok (.iconst 1, 1) := by decide +kernel
theorem dX8_expect_22 : decode cX8_expect 22 = .ok (.invokevirtual 70, 3) := by decide +kernel
theorem dX8_expect_25 : decode cX8_expect 25 = .ok (.return_, 1) := by decide +kernel
def xX8_expect  (l1 : Int32) (M : j_M) : Option (j_M) := oli (M 28 5) fun v1 => (if v1 = (0 : Int32) then obv (xX8_readToken M) fun M2 => oli (M2 28 10) fun v3 => (if v3 = l1 then some M2 else obv (xX8_refuse (nI 1) M2) fun M4 => some M4) else some M)
set_option maxRecDepth 20000 in
set_option maxHeartbeats 2000000 in
theorem tX8_expect  (l1 : Int32) (M : j_M) : J (ρ := j_M) yX8_expect cX8_expect 2 none 3 64 j_ev 0 [(0, .inr (13, 0, 28)), (1, .inl (l1))] [] M (xX8_expect  l1 M) := by
  unfold xX8_expect
  refine K_aload_n (q := 1) 0 dX8_expect_0 rfl rfl rfl ?_
  refine K_getI (q := 4) (ci := 3) 5 dX8_expect_1 fRX8_31 rfl rfl rfl (fun v1 => ?_)
  refine K_if_eq (q := 7) (tgt := 8) dX8_expect_4 rfl ?_ rfl ?_
  · refine K_aload_n (q := 9) 0 dX8_expect_8 rfl rfl rfl ?_
    refine K_cvv (q := 12) [] dX8_expect_9 cb_X8_readToken cvRX8_49 rc_3 (show (13 : Nat) ≠ 0 by decide) rfl (Nat.le_of_ble_eq_true rfl) ⟨by decide, by decide⟩ (Nat.le_of_ble_eq_true rfl) rfl (tX8_readToken M) rfl (fun M2 => ?_)
    refine K_aload_n (q := 13) 0 dX8_expect_12 rfl rfl rfl ?_
    refine K_getI (q := 16) (ci := 3) 10 dX8_expect_13 fRX8_52 rfl rfl rfl (fun v3 => ?_)
    refine K_iload_n (q := 17) 1 dX8_expect_16 rfl rfl rfl ?_
    refine K_icmp_eq (q := 20) (tgt := 25) dX8_expect_17 rfl ?_ rfl ?_
    · exact J_vret dX8_expect_25
    · refine K_aload_n (q := 21) 0 dX8_expect_20 rfl rfl rfl ?_
      refine K_iconst (q := 22) (v := nI 1) dX8_expect_21 rfl rfl ?_
      refine K_cvv (q := 25) [.inl ((nI 1))] dX8_expect_22 cb_X8_refuse cvRX8_70 rc_3 (show (13 : Nat) ≠ 0 by decide) rfl (Nat.le_of_ble_eq_true rfl) ⟨by decide, by decide⟩ (Nat.le_of_ble_eq_true rfl) rfl (tX8_refuse (nI 1) M2) rfl (fun M4 => ?_)
      exact J_vret dX8_expect_25
  · exact J_vret dX8_expect_7
theorem dX8_readNumber_0 : decode cX8_readNumber 0 = .ok (.aload_n 0, 1) := by decide +kernel
theorem dX8_readNumber_1 : decode cX8_readNumber 1 = .ok (.getfield 31, 3) := by decide +kernel
theorem dX8_readNumber_4 : decode cX8_readNumber 4 = .ok (.ifCond .eq 5, 3) := by decide +kernel
theorem dX8_readNumber_7 : decode cX8_readNumber 7 = .ok (.iload_n 1, 1) := by decide +kernel
theorem dX8_readNumber_8 : decode cX8_readNumber 8 = .ok (.ireturn, 1) := by decide +kernel
theorem dX8_readNumber_9 : decode cX8_readNumber 9 = .ok (.aload_n 0, 1) := by decide +kernel
theorem dX8_readNumber_10 : decode cX8_readNumber 10 = .ok (.invokevirtual 49, 3) := by decide +kernel
theorem dX8_readNumber_13 : decode cX8_readNumber 13 = .ok (.aload_n 0, 1) := by decide +kernel
theorem dX8_readNumber_14 : decode cX8_readNumber 14 = .ok (.getfield 52, 3) := by decide +kernel
theorem dX8_readNumber_17 : decode cX8_readNumber 17 = .ok (.iconst 2, 1) := by decide +kernel
theorem dX8_readNumber_18 : decode cX8_readNumber 18 = .ok (.if_icmp .eq 10, 3) := by decide +kernel
theorem dX8_readNumber_21 : decode cX8_readNumber 21 = .ok (.aload_n 0, 1) := by decide +kernel
theorem dX8_readNumber_22 : decode cX8_readNumber 22 = .ok (.iconst 1, 1) := by decide +kernel
theorem dX8_readNumber_23 : decode cX8_readNumber 23 = .ok (.invokevirtual 70, 3) := by decide +kernel
theorem dX8_readNumber_26 : decode cX8_readNumber 26 = .ok (.iload_n 1, 1) := by decide +kernel
theorem dX8_readNumber_27 : decode cX8_readNumber 27 = .ok (.ireturn, 1) := by decide +kernel
theorem dX8_readNumber_28 : decode cX8_readNumber 28 = .ok (.aload_n 0, 1) := by decide +kernel
theorem dX8_readNumber_29 : decode cX8_readNumber 29 = .ok (.getfield 58, 3) := by decide +kernel
theorem dX8_readNumber_32 : decode cX8_readNumber 32 = .ok (.iload_n 1, 1) := by decide +kernel
theorem dX8_readNumber_33 : decode cX8_readNumber 33 = .ok (.if_icmp .lt 11, 3) := by decide +kernel
theorem dX8_readNumber_36 : decode cX8_readNumber 36 = .ok (.aload_n 0, 1) := by decide +kernel
theorem dX8_readNumber_37 : decode cX8_readNumber 37 = .ok (.getfield 58, 3) := by decide +kernel
theorem dX8_readNumber_40 : decode cX8_readNumber 40 = .ok (.iload_n 2, 1) := by decide +kernel
theorem dX8_readNumber_41 : decode cX8_readNumber 41 = .ok (.if_icmp .le 10, 3) := by decide +kernel
theorem dX8_readNumber_44 : decode cX8_readNumber 44 = .ok (.aload_n 0, 1) := by decide +kernel
theorem dX8_readNumber_45 : decode cX8_readNumber 45 = .ok (.iconst 2, 1) := by decide +kernel
theorem dX8_readNumber_46 : decode cX8_readNumber 46 = .ok (.invokevirtual 70, 3) := by decide +kernel
theorem dX8_readNumber_49 : decode cX8_readNumber 49 = .ok (.iload_n 1, 1) := by decide +kernel
theorem dX8_readNumber_50 : decode cX8_readNumber 50 = .ok (.ireturn, 1) := by decide +kernel
theorem dX8_readNumber_51 : decode cX8_readNumber 51 = .ok (.aload_n 0, 1) := by decide +kernel
theorem dX8_readNumber_52 : decode cX8_readNumber 52 = .ok (.getfield 58, 3) := by decide +kernel
theorem dX8_readNumber_55 : decode cX8_readNumber 55 = .ok (.ireturn, 1) := by decide +kernel
def xX8_readNumber_44   (l1 : Int32) (M : j_M) : Option (Int32 × j_M) := obv (xX8_refuse (nI 2) M) fun M1 => some (l1, M1)
set_option maxRecDepth 20000 in
set_option maxHeartbeats 2000000 in
theorem tX8_readNumber_44    (l1 : Int32) (M : j_M) : J (ρ := Int32 × j_M) yX8_readNumber cX8_readNumber 3 (some .int) 3 64 j_ei 44 [(0, .inr (13, 0, 28)), (1, .inl (l1))] [] M (xX8_readNumber_44  l1 M) := by
  unfold xX8_readNumber_44
  refine K_aload_n (q := 45) 0 dX8_readNumber_44 rfl rfl rfl ?_
  refine K_iconst (q := 46) (v := nI 2) dX8_readNumber_45 rfl rfl ?_
  refine K_cvv (q := 49) [.inl ((nI 2))] dX8_readNumber_46 cb_X8_refuse cvRX8_70 rc_3 (show (13 : Nat) ≠ 0 by decide) rfl (Nat.le_of_ble_eq_true rfl) ⟨by decide, by decide⟩ (Nat.le_of_ble_eq_true rfl) rfl (tX8_refuse (nI 2) M) rfl (fun M1 => ?_)
  refine K_iload_n (q := 50) 1 dX8_readNumber_49 rfl rfl rfl ?_
  exact J_iret dX8_readNumber_50
def xX8_readNumber  (l1 : Int32) (l2 : Int32) (M : j_M) : Option (Int32 × j_M) := oli (M 28 5) fun v1 => (if v1 = (0 : Int32) then obv (xX8_readToken M) fun M2 => oli (M2 28 10) fun v3 => (if v3 = (nI 2) then oli (M2 28 11) fun v4 => (if v4 < l1 then xX8_readNumber_44  l1 M2 else oli (M2 28 11) fun v5 => (if v5 ≤ l2 then oli (M2 28 11) fun v6 => some (v6, M2) else xX8_readNumber_44  l1 M2)) else obv (xX8_refuse (nI 1) M2) fun M7 => some (l1, M7)) else some (l1, M))
set_option maxRecDepth 20000 in
set_option maxHeartbeats 2000000 in
theorem tX8_readNumber  (l1 : Int32) (l2 : Int32) (M : j_M) : J (ρ := Int32 × j_M) yX8_readNumber cX8_readNumber 3 (some .int) 3 64 j_ei 0 [(0, .inr (13, 0, 28)), (1, .inl (l1)), (2, .inl (l2))] [] M (xX8_readNumber  l1 l2 M) := by
  unfold xX8_readNumber
  refine K_aload_n (q := 1) 0 dX8_readNumber_0 rfl rfl rfl ?_
  refine K_getI (q := 4) (ci := 3) 5 dX8_readNumber_1 fRX8_31 rfl rfl rfl (fun v1 => ?_)
  refine K_if_eq (q := 7) (tgt := 9) dX8_readNumber_4 rfl ?_ rfl ?_
  · refine K_aload_n (q := 10) 0 dX8_readNumber_9 rfl rfl rfl ?_
    refine K_cvv (q := 13) [] dX8_readNumber_10 cb_X8_readToken cvRX8_49 rc_3 (show (13 : Nat) ≠ 0 by decide) rfl (Nat.le_of_ble_eq_true rfl) ⟨by decide, by decide⟩ (Nat.le_of_ble_eq_true rfl) rfl (tX8_readToken M) rfl (fun M2 => ?_)
    refine K_aload_n (q := 14) 0 dX8_readNumber_13 rfl rfl rfl ?_
    refine K_getI (q := 17) (ci := 3) 10 dX8_readNumber_14 fRX8_52 rfl rfl rfl (fun v3 => ?_)
    refine K_iconst (q := 18) (v := nI 2) dX8_readNumber_17 rfl rfl ?_
    refine K_icmp_eq (q := 21) (tgt := 28) dX8_readNumber_18 rfl ?_ rfl ?_
    · refine K_aload_n (q := 29) 0 dX8_readNumber_28 rfl rfl rfl ?_
      refine K_getI (q := 32) (ci := 3) 11 dX8_readNumber_29 fRX8_58 rfl rfl rfl (fun v4 => ?_)
      refine K_iload_n (q := 33) 1 dX8_readNumber_32 rfl rfl rfl ?_
      refine K_icmp_lt (q := 36) (tgt := 44) dX8_readNumber_33 rfl ?_ rfl ?_
      · exact J_sub [0, 1] (tX8_readNumber_44  l1 M2) rfl
      · refine K_aload_n (q := 37) 0 dX8_readNumber_36 rfl rfl rfl ?_
        refine K_getI (q := 40) (ci := 3) 11 dX8_readNumber_37 fRX8_58 rfl rfl rfl (fun v5 => ?_)
        refine K_iload_n (q := 41) 2 dX8_readNumber_40 rfl rfl rfl ?_
        refine K_icmp_le (q := 44) (tgt := 51) dX8_readNumber_41 rfl ?_ rfl ?_
        · refine K_aload_n (q := 52) 0 dX8_readNumber_51 rfl rfl rfl ?_
          refine K_getI (q := 55) (ci := 3) 11 dX8_readNumber_52 fRX8_58 rfl rfl rfl (fun v6 => ?_)
          exact J_iret dX8_readNumber_55
        · exact J_sub [0, 1] (tX8_readNumber_44  l1 M2) rfl
    · refine K_aload_n (q := 22) 0 dX8_readNumber_21 rfl rfl rfl ?_
      refine K_iconst (q := 23) (v := nI 1) dX8_readNumber_22 rfl rfl ?_
      refine K_cvv (q := 26) [.inl ((nI 1))] dX8_readNumber_23 cb_X8_refuse cvRX8_70 rc_3 (show (13 : Nat) ≠ 0 by decide) rfl (Nat.le_of_ble_eq_true rfl) ⟨by decide, by decide⟩ (Nat.le_of_ble_eq_true rfl) rfl (tX8_refuse (nI 1) M2) rfl (fun M7 => ?_)
      refine K_iload_n (q := 27) 1 dX8_readNumber_26 rfl rfl rfl ?_
      exact J_iret dX8_readNumber_27
  · refine K_iload_n (q := 8) 1 dX8_readNumber_7 rfl rfl rfl ?_
    exact J_iret dX8_readNumber_8
theorem dX8_readAct_0 : decode cX8_readAct 0 = .ok (.aload_n 0, 1) := by decide +kernel
theorem dX8_readAct_1 : decode cX8_readAct 1 = .ok (.getfield 58, 3) := by decide +kernel
theorem dX8_readAct_4 : decode cX8_readAct 4 = .ok (.istore_n 2, 1) := by decide +kernel
theorem dX8_readAct_5 : decode cX8_readAct 5 = .ok (.aload_n 0, 1) := by decide +kernel
theorem dX8_readAct_6 : decode cX8_readAct 6 = .ok (.getstatic 83, 3) := by decide +kernel
theorem dX8_readAct_9 : decode cX8_readAct 9 = .ok (.iload_n 2, 1) := by decide +kernel
theorem dX8_readAct_10 : decode cX8_readAct 10 = .ok (.iaload, 1) := by decide +kernel
theorem dX8_readAct_11 : decode cX8_readAct 11 = .ok (.getstatic 86, 3) := by decide +kernel
theorem dX8_readAct_14 : decode cX8_readAct 14 = .ok (.iload_n 2, 1) := by decide +kernel
theorem dX8_readAct_15 : decode cX8_readAct 15 = .ok (.iaload, 1) := by decide +kernel
theorem dX8_readAct_16 : decode cX8_readAct 16 = .ok (.invokevirtual 73, 3) := by decide +kernel
theorem dX8_readAct_19 : decode cX8_readAct 19 = .ok (.istore_n 3, 1) := by decide +kernel
theorem dX8_readAct_20 : decode cX8_readAct 20 = .ok (.iconst 0, 1) := by decide +kernel
theorem dX8_readAct_21 : decode cX8_readAct 21 = .ok (.istore 4, 2) := by decide +kernel
theorem dX8_readAct_23 : decode cX8_readAct 23 = .ok (.getstatic 89, 3) := by decide +kernel
theorem dX8_readAct_26 : decode cX8_readAct 26 = .ok (.iload_n 2, 1) := by decide +kernel
theorem dX8_readAct_27 : decode cX8_readAct 27 = .ok (.iaload, 1) := by decide +kernel
theorem dX8_readAct_28 : decode cX8_readAct 28 = .ok (.iconst (-1), 1) := by decide +kernel
theorem dX8_readAct_29 : decode cX8_readAct 29 = .ok (.if_icmp .eq 15, 3) := by decide +kernel
theorem dX8_readAct_32 : decode cX8_readAct 32 = .ok (.aload_n 0, 1) := by decide +kernel
theorem dX8_readAct_33 : decode cX8_readAct 33 = .ok (.iconst 0, 1) := by decide +kernel
theorem dX8_readAct_34 : decode cX8_readAct 34 = .ok (.getstatic 89, 3) := by decide +kernel
theorem dX8_readAct_37 : decode cX8_readAct 37 = .ok (.iload_n 2, 1) := by decide +kernel
theorem dX8_readAct_38 : decode cX8_readAct 38 = .ok (.iaload, 1) := by decide +kernel
theorem dX8_readAct_39 : decode cX8_readAct 39 = .ok (.invokevirtual 73, 3) := by decide +kernel
theorem dX8_readAct_42 : decode cX8_readAct 42 = .ok (.istore 4, 2) := by decide +kernel
theorem dX8_readAct_44 : decode cX8_readAct 44 = .ok (.aload_n 0, 1) := by decide +kernel
theorem dX8_readAct_45 : decode cX8_readAct 45 = .ok (.iconst 3, 1) := by decide +kernel
theorem dX8_readAct_46 : decode cX8_readAct 46 = .ok (.invokevirtual 77, 3) := by decide +kernel
theorem dX8_readAct_49 : decode cX8_readAct 49 = .ok (.aload_n 0, 1) := by decide +kernel
theorem dX8_readAct_50 : decode cX8_readAct 50 = .ok (.getfield 40, 3) := by decide +kernel
theorem dX8_readAct_53 : decode cX8_readAct 53 = .ok (.sipush 200, 3) := by decide +kernel
theorem dX8_readAct_56 : decode cX8_readAct 56 = .ok (.if_icmp .ge 23, 3) := by decide +kernel
theorem dX8_readAct_59 : decode cX8_readAct 59 = .ok (.aload_n 0, 1) := by decide +kernel
theorem dX8_readAct_60 : decode cX8_readAct 60 = .ok (.getfield 15, 3) := by decide +kernel
theorem dX8_readAct_63 : decode cX8_readAct 63 = .ok (.aload_n 0, 1) := by decide +kernel
theorem dX8_readAct_64 : decode cX8_readAct 64 = .ok (.getfield 40, 3) := by decide +kernel
theorem dX8_readAct_67 : decode cX8_readAct 67 = .ok (.iload_n 2, 1) := by decide +kernel
theorem dX8_readAct_68 : decode cX8_readAct 68 = .ok (.iload_n 3, 1) := by decide +kernel
theorem dX8_readAct_69 : decode cX8_readAct 69 = .ok (.iload 4, 2) := by decide +kernel
theorem dX8_readAct_71 : decode cX8_readAct 71 = .ok (.invokestatic 92, 3) := by decide +kernel
theorem dX8_readAct_74 : decode cX8_readAct 74 = .ok (.iload_n 1, 1) := by decide +kernel
theorem dX8_readAct_75 : decode cX8_readAct 75 = .ok (.invokestatic 96, 3) := by decide +kernel
theorem dX8_readAct_78 : decode cX8_readAct 78 = .ok (.iastore, 1) := by decide +kernel
theorem dX8_readAct_79 : decode cX8_readAct 79 = .ok (.aload_n 0, 1) := by decide +kernel
theorem dX8_readAct_80 : decode cX8_readAct 80 = .ok (.dup, 1) := by decide +kernel
theorem dX8_readAct_81 : decode cX8_readAct 81 = .ok (.getfield 40, 3) := by decide +kernel
theorem dX8_readAct_84 : decode cX8_readAct 84 = .ok (.iconst 1, 1) := by decide +kernel
theorem dX8_readAct_85 : decode cX8_readAct 85 = .ok (.iadd, 1) := by decide +kernel
theorem dX8_readAct_86 : decode cX8_readAct 86 = .ok (.putfield 40, 3) := by decide +kernel
theorem dX8_readAct_89 : decode cX8_readAct 89 = .ok (.return_, 1) := by decide +kernel
def xX8_readAct_79    (M : j_M) : Option (j_M) := oli (M 28 7) fun v1 => oml (mw M 28 7 (v1 + (nI 1))) fun M2 => some M2
set_option maxRecDepth 20000 in
set_option maxHeartbeats 2000000 in
theorem tX8_readAct_79     (M : j_M) : J (ρ := j_M) yX8_readAct cX8_readAct 5 none 4 86 j_ev 79 [(0, .inr (13, 0, 28))] [] M (xX8_readAct_79   M) := by
  unfold xX8_readAct_79
  refine K_aload_n (q := 80) 0 dX8_readAct_79 rfl rfl rfl ?_
  refine K_dup (q := 81) dX8_readAct_80 rfl ?_
  refine K_getI (q := 84) (ci := 3) 7 dX8_readAct_81 fRX8_40 rfl rfl rfl (fun v1 => ?_)
  refine K_iconst (q := 85) (v := nI 1) dX8_readAct_84 rfl rfl ?_
  refine K_iadd (q := 86) dX8_readAct_85 rfl ?_
  refine K_putI (q := 89) (ci := 3) 7 dX8_readAct_86 fRX8_40 fp_3_7 rfl rfl (by decide) rfl (fun M2 => ?_)
  exact J_vret dX8_readAct_89
def xX8_readAct_44   (l1 : Int32) (l2 : Int32) (l3 : Int32) (l4 : Int32) (M : j_M) : Option (j_M) := obv (xX8_expect (nI 3) M) fun M1 => oli (M1 28 7) fun v2 => (if (nI 200) ≤ v2 then xX8_readAct_79  M1 else oli (M1 28 7) fun v3 => obi (xX0_of l2 l3 l4 M1) fun v5 M4 => obi (xX0_withCpu v5 l1 M4) fun v7 M6 => gd v3 200 (oml (mw M6 30 (ix v3) v7) fun M8 => xX8_readAct_79  M8))
set_option maxRecDepth 20000 in
set_option maxHeartbeats 2000000 in
theorem tX8_readAct_44    (l1 : Int32) (l2 : Int32) (l3 : Int32) (l4 : Int32) (M : j_M) : J (ρ := j_M) yX8_readAct cX8_readAct 5 none 4 86 j_ev 44 [(0, .inr (13, 0, 28)), (1, .inl (l1)), (2, .inl (l2)), (3, .inl (l3)), (4, .inl (l4))] [] M (xX8_readAct_44  l1 l2 l3 l4 M) := by
  unfold xX8_readAct_44
  refine K_aload_n (q := 45) 0 dX8_readAct_44 rfl rfl rfl ?_
  refine K_iconst (q := 46) (v := nI 3) dX8_readAct_45 rfl rfl ?_
  refine K_cvv (q := 49) [.inl ((nI 3))] dX8_readAct_46 cb_X8_expect cvRX8_77 rc_3 (show (13 : Nat) ≠ 0 by decide) rfl (Nat.le_of_ble_eq_true rfl) ⟨by decide, by decide⟩ (Nat.le_of_ble_eq_true rfl) rfl (tX8_expect (nI 3) M) rfl (fun M1 => ?_)
  refine K_aload_n (q := 50) 0 dX8_readAct_49 rfl rfl rfl ?_
  refine K_getI (q := 53) (ci := 3) 7 dX8_readAct_50 fRX8_40 rfl rfl rfl (fun v2 => ?_)
  refine K_sipush (q := 56) (v := nI 200) dX8_readAct_53 rfl rfl ?_
  refine K_icmp_ge (q := 59) (tgt := 79) dX8_readAct_56 rfl ?_ rfl ?_
  · exact J_sub [0] (tX8_readAct_79  M1) rfl
  · refine K_aload_n (q := 60) 0 dX8_readAct_59 rfl rfl rfl ?_
    refine K_getR (q := 63) (ci := 3) (a2 := 30) 1 dX8_readAct_60 fRX8_15 rfl rfl (by decide) rfl rfl ?_
    refine K_aload_n (q := 64) 0 dX8_readAct_63 rfl rfl rfl ?_
    refine K_getI (q := 67) (ci := 3) 7 dX8_readAct_64 fRX8_40 rfl rfl rfl (fun v3 => ?_)
    refine K_iload_n (q := 68) 2 dX8_readAct_67 rfl rfl rfl ?_
    refine K_iload_n (q := 69) 3 dX8_readAct_68 rfl rfl rfl ?_
    refine K_iload (q := 71) 4 dX8_readAct_69 rfl rfl ?_
    refine K_csi (q := 74) [.inl (l2), .inl (l3), .inl (l4)] dX8_readAct_71 cb_X0_of cvRX8_92 rfl (Nat.le_of_ble_eq_true rfl) ⟨by decide, by decide⟩ (Nat.le_of_ble_eq_true rfl) rfl (tX0_of l2 l3 l4 M1) rfl (fun v5 M4 => ?_)
    refine K_iload_n (q := 75) 1 dX8_readAct_74 rfl rfl rfl ?_
    refine K_csi (q := 78) [.inl (v5), .inl (l1)] dX8_readAct_75 cb_X0_withCpu cvRX8_96 rfl (Nat.le_of_ble_eq_true rfl) ⟨by decide, by decide⟩ (Nat.le_of_ble_eq_true rfl) rfl (tX0_withCpu v5 l1 M4) rfl (fun v7 M6 => ?_)
    refine K_iast (q := 79) dX8_readAct_78 rfl (fun M8 => ?_)
    exact J_sub [0] (tX8_readAct_79  M8) rfl
def xX8_readAct  (l1 : Int32) (M : j_M) : Option (j_M) := oli (M 28 11) fun v1 => gd v1 13 (oli (M 300 (ix v1)) fun v2 => gd v1 13 (oli (M 301 (ix v1)) fun v3 => obi (xX8_readNumber v2 v3 M) fun v5 M4 => gd v1 13 (oli (M4 302 (ix v1)) fun v6 => (if v6 = (-1 : Int32) then xX8_readAct_44  l1 v1 v5 (nI 0) M4 else gd v1 13 (oli (M4 302 (ix v1)) fun v7 => obi (xX8_readNumber (nI 0) v7 M4) fun v9 M8 => xX8_readAct_44  l1 v1 v5 v9 M8)))))
set_option maxRecDepth 20000 in
set_option maxHeartbeats 2000000 in
theorem tX8_readAct  (l1 : Int32) (M : j_M) : J (ρ := j_M) yX8_readAct cX8_readAct 5 none 4 86 j_ev 0 [(0, .inr (13, 0, 28)), (1, .inl (l1))] [] M (xX8_readAct  l1 M) := by
  unfold xX8_readAct
  refine K_aload_n (q := 1) 0 dX8_readAct_0 rfl rfl rfl ?_
  refine K_getI (q := 4) (ci := 3) 11 dX8_readAct_1 fRX8_58 rfl rfl rfl (fun v1 => ?_)
  refine K_istore_n (q := 5) (ll' := [(2, .inl (v1)), (0, .inr (13, 0, 28)), (1, .inl (l1))]) dX8_readAct_4 rfl (by decide) rfl rfl ?_
  refine K_aload_n (q := 6) 1 dX8_readAct_5 rfl rfl rfl ?_
  refine K_gstat (q := 9) (n := 13) (a := 300) dX8_readAct_6 (j_in 776 (by decide +kernel) (by decide +kernel)) (fun _ _ _ _ h => h.1) rfl ?_
  refine K_iload_n (q := 10) 0 dX8_readAct_9 rfl rfl rfl ?_
  refine K_iald3 (q := 11) dX8_readAct_10 rfl (fun v2 => ?_)
  refine K_gstat (q := 14) (n := 13) (a := 301) dX8_readAct_11 (j_in 778 (by decide +kernel) (by decide +kernel)) (fun _ _ _ _ h => h.2.1) rfl ?_
  refine K_iload_n (q := 15) 0 dX8_readAct_14 rfl rfl rfl ?_
  refine K_iald3 (q := 16) dX8_readAct_15 rfl (fun v3 => ?_)
  refine K_cvi (q := 19) [.inl (v2), .inl (v3)] dX8_readAct_16 cb_X8_readNumber cvRX8_73 rc_3 (show (13 : Nat) ≠ 0 by decide) rfl (Nat.le_of_ble_eq_true rfl) ⟨by decide, by decide⟩ (Nat.le_of_ble_eq_true rfl) rfl (tX8_readNumber v2 v3 M) rfl (fun v5 M4 => ?_)
  refine K_istore_n (q := 20) (ll' := [(3, .inl (v5)), (2, .inl (v1)), (0, .inr (13, 0, 28)), (1, .inl (l1))]) dX8_readAct_19 rfl (by decide) rfl rfl ?_
  refine K_iconst (q := 21) (v := nI 0) dX8_readAct_20 rfl rfl ?_
  refine K_istore (q := 23) (ll' := [(4, .inl ((nI 0))), (3, .inl (v5)), (2, .inl (v1)), (0, .inr (13, 0, 28)), (1, .inl (l1))]) dX8_readAct_21 (by decide) rfl rfl ?_
  refine K_gstat (q := 26) (n := 13) (a := 302) dX8_readAct_23 (j_in 780 (by decide +kernel) (by decide +kernel)) (fun _ _ _ _ h => h.2.2.1) rfl ?_
  refine K_iload_n (q := 27) 2 dX8_readAct_26 rfl rfl rfl ?_
  refine K_iald3 (q := 28) dX8_readAct_27 rfl (fun v6 => ?_)
  refine K_iconst (q := 29) (v := -1) dX8_readAct_28 rfl rfl ?_
  refine K_icmp_eq (q := 32) (tgt := 44) dX8_readAct_29 rfl ?_ rfl ?_
  · exact J_sub [3, 4, 2, 1, 0] (tX8_readAct_44  l1 v1 v5 (nI 0) M4) rfl
  · refine K_aload_n (q := 33) 3 dX8_readAct_32 rfl rfl rfl ?_
    refine K_iconst (q := 34) (v := nI 0) dX8_readAct_33 rfl rfl ?_
    refine K_gstat (q := 37) (n := 13) (a := 302) dX8_readAct_34 (j_in 780 (by decide +kernel) (by decide +kernel)) (fun _ _ _ _ h => h.2.2.1) rfl ?_
    refine K_iload_n (q := 38) 2 dX8_readAct_37 rfl rfl rfl ?_
    refine K_iald3 (q := 39) dX8_readAct_38 rfl (fun v7 => ?_)
    refine K_cvi (q := 42) [.inl ((nI 0)), .inl (v7)] dX8_readAct_39 cb_X8_readNumber cvRX8_73 rc_3 (show (13 : Nat) ≠ 0 by decide) rfl (Nat.le_of_ble_eq_true rfl) ⟨by decide, by decide⟩ (Nat.le_of_ble_eq_true rfl) rfl (tX8_readNumber (nI 0) v7 M4) rfl (fun v9 M8 => ?_)
    refine K_istore (q := 44) (ll' := [(4, .inl (v9)), (3, .inl (v5)), (2, .inl (v1)), (0, .inr (13, 0, 28)), (1, .inl (l1))]) dX8_readAct_42 (by decide) rfl rfl ?_
    exact J_sub [3, 4, 2, 1, 0] (tX8_readAct_44  l1 v1 v5 v9 M8) rfl
theorem dX8_readLine_0 : decode cX8_readLine 0 = .ok (.aload_n 0, 1) := by decide +kernel
theorem dX8_readLine_1 : decode cX8_readLine 1 = .ok (.getfield 52, 3) := by decide +kernel
theorem dX8_readLine_4 : decode cX8_readLine 4 = .ok (.iconst 2, 1) := by decide +kernel
theorem dX8_readLine_5 : decode cX8_readLine 5 = .ok (.if_icmp .ne 7, 3) := by decide +kernel
theorem dX8_readLine_8 : decode cX8_readLine 8 = .ok (.iconst 1, 1) := by decide +kernel
theorem dX8_readLine_9 : decode cX8_readLine 9 = .ok (.goto 4, 3) := by decide +kernel
theorem dX8_readLine_12 : decode cX8_readLine 12 = .ok (.iconst 0, 1) := by decide +kernel
theorem dX8_readLine_13 : decode cX8_readLine 13 = .ok (.istore_n 1, 1) := by decide +kernel
theorem dX8_readLine_14 : decode cX8_readLine 14 = .ok (.aload_n 0, 1) := by decide +kernel
theorem dX8_readLine_15 : decode cX8_readLine 15 = .ok (.getfield 58, 3) := by decide +kernel
theorem dX8_readLine_18 : decode cX8_readLine 18 = .ok (.istore_n 2, 1) := by decide +kernel
theorem dX8_readLine_19 : decode cX8_readLine 19 = .ok (.iload_n 1, 1) := by decide +kernel
theorem dX8_readLine_20 : decode cX8_readLine 20 = .ok (.ifCond .eq 16, 3) := by decide +kernel
theorem dX8_readLine_23 : decode cX8_readLine 23 = .ok (.iload_n 2, 1) := by decide +kernel
theorem dX8_readLine_24 : decode cX8_readLine 24 = .ok (.iconst 5, 1) := by decide +kernel
theorem dX8_readLine_25 : decode cX8_readLine 25 = .ok (.if_icmp .le 33, 3) := by decide +kernel
theorem dX8_readLine_28 : decode cX8_readLine 28 = .ok (.aload_n 0, 1) := by decide +kernel
theorem dX8_readLine_29 : decode cX8_readLine 29 = .ok (.iconst 2, 1) := by decide +kernel
theorem dX8_readLine_30 : decode cX8_readLine 30 = .ok (.invokevirtual 70, 3) := by decide +kernel
theorem dX8_readLine_33 : decode cX8_readLine 33 = .ok (.goto 25, 3) := by decide +kernel
theorem dX8_readLine_36 : decode cX8_readLine 36 = .ok (.aload_n 0, 1) := by decide +kernel
theorem dX8_readLine_37 : decode cX8_readLine 37 = .ok (.getfield 52, 3) := by decide +kernel
theorem dX8_readLine_40 : decode cX8_readLine 40 = .ok (.iconst 1, 1) := by decide +kernel
theorem dX8_readLine_41 : decode cX8_readLine 41 = .ok (.if_icmp .ne 12, 3) := by decide +kernel
theorem dX8_readLine_44 : decode cX8_readLine 44 = .ok (.aload_n 0, 1) := by decide +kernel
theorem dX8_readLine_45 : decode cX8_readLine 45 = .ok (.getfield 58, 3) := by decide +kernel
theorem dX8_readLine_48 : decode cX8_readLine 48 = .ok (.bipush 7, 2) := by decide +kernel
theorem dX8_readLine_50 : decode cX8_readLine 50 = .ok (.if_icmp .ge 8, 3) := by decide +kernel
theorem dX8_readLine_53 : decode cX8_readLine 53 = .ok (.aload_n 0, 1) := by decide +kernel
theorem dX8_readLine_54 : decode cX8_readLine 54 = .ok (.iconst 1, 1) := by decide +kernel
theorem dX8_readLine_55 : decode cX8_readLine 55 = .ok (.invokevirtual 70, 3) := by decide +kernel
theorem dX8_readLine_58 : decode cX8_readLine 58 = .ok (.aload_n 0, 1) := by decide +kernel
theorem dX8_readLine_59 : decode cX8_readLine 59 = .ok (.getfield 31, 3) := by decide +kernel
theorem dX8_readLine_62 : decode cX8_readLine 62 = .ok (.ifCond .ne 17, 3) := by decide +kernel
theorem dX8_readLine_65 : decode cX8_readLine 65 = .ok (.aload_n 0, 1) := by decide +kernel
theorem dX8_readLine_66 : decode cX8_readLine 66 = .ok (.getfield 40, 3) := by decide +kernel
theorem dX8_readLine_69 : decode cX8_readLine 69 = .ok (.bipush 24, 2) := by decide +kernel
theorem dX8_readLine_71 : decode cX8_readLine 71 = .ok (.if_icmp .lt 8, 3) := by decide +kernel
theorem dX8_readLine_74 : decode cX8_readLine 74 = .ok (.aload_n 0, 1) := by decide +kernel
theorem dX8_readLine_75 : decode cX8_readLine 75 = .ok (.iconst 3, 1) := by decide +kernel
theorem dX8_readLine_76 : decode cX8_readLine 76 = .ok (.invokevirtual 70, 3) := by decide +kernel
theorem dX8_readLine_79 : decode cX8_readLine 79 = .ok (.aload_n 0, 1) := by decide +kernel
theorem dX8_readLine_80 : decode cX8_readLine 80 = .ok (.getfield 31, 3) := by decide +kernel
theorem dX8_readLine_83 : decode cX8_readLine 83 = .ok (.ifCond .ne 41, 3) := by decide +kernel
theorem dX8_readLine_86 : decode cX8_readLine 86 = .ok (.iload_n 1, 1) := by decide +kernel
theorem dX8_readLine_87 : decode cX8_readLine 87 = .ok (.ifCond .eq 37, 3) := by decide +kernel
theorem dX8_readLine_90 : decode cX8_readLine 90 = .ok (.aload_n 0, 1) := by decide +kernel
theorem dX8_readLine_91 : decode cX8_readLine 91 = .ok (.invokevirtual 49, 3) := by decide +kernel
theorem dX8_readLine_94 : decode cX8_readLine 94 = .ok (.aload_n 0, 1) := by decide +kernel
theorem dX8_readLine_95 : decode cX8_readLine 95 = .ok (.getfield 52, 3) := by decide +kernel
theorem dX8_readLine_98 : decode cX8_readLine 98 = .ok (.iconst 1, 1) := by decide +kernel
theorem dX8_readLine_99 : decode cX8_readLine 99 = .ok (.if_icmp .ne 20, 3) := by decide +kernel
theorem dX8_readLine_102 : decode cX8_readLine 102 = .ok (.aload_n 0, 1) := by decide +kernel
theorem dX8_readLine_103 : decode cX8_readLine 103 = .ok (.getfield 58, 3) := by decide +kernel
theorem dX8_readLine_106 : decode cX8_readLine 106 = .ok (.iconst 3, 1) := by decide +kernel
theorem dX8_readLine_107 : decode cX8_readLine 107 = .ok (.if_icmp .le 17, 3) := by decide +kernel
theorem dX8_readLine_110 : decode cX8_readLine 110 = .ok (.aload_n 0, 1) := by decide +kernel
theorem dX8_readLine_111 : decode cX8_readLine 111 = .ok (.getfield 58, 3) := by decide +kernel
theorem dX8_readLine_114 : decode cX8_readLine 114 = .ok (.bipush 6, 2) := by decide +kernel
theorem dX8_readLine_116 : decode cX8_readLine 116 = .ok (.if_icmp .eq 8, 3) := by decide +kernel
theorem dX8_readLine_119 : decode cX8_readLine 119 = .ok (.aload_n 0, 1) := by decide +kernel
theorem dX8_readLine_120 : decode cX8_readLine 120 = .ok (.iconst 1, 1) := by decide +kernel
theorem dX8_readLine_121 : decode cX8_readLine 121 = .ok (.invokevirtual 70, 3) := by decide +kernel
theorem dX8_readLine_124 : decode cX8_readLine 124 = .ok (.aload_n 0, 1) := by decide +kernel
theorem dX8_readLine_125 : decode cX8_readLine 125 = .ok (.getfield 31, 3) := by decide +kernel
theorem dX8_readLine_128 : decode cX8_readLine 128 = .ok (.ifCond .ne 16, 3) := by decide +kernel
theorem dX8_readLine_131 : decode cX8_readLine 131 = .ok (.aload_n 0, 1) := by decide +kernel
theorem dX8_readLine_132 : decode cX8_readLine 132 = .ok (.iload_n 1, 1) := by decide +kernel
theorem dX8_readLine_133 : decode cX8_readLine 133 = .ok (.ifCond .eq 7, 3) := by decide +kernel
theorem dX8_readLine_136 : decode cX8_readLine 136 = .ok (.iload_n 2, 1) := by decide +kernel
theorem dX8_readLine_137 : decode cX8_readLine 137 = .ok (.goto 4, 3) := by decide +kernel
theorem dX8_readLine_140 : decode cX8_readLine 140 = .ok (.iconst 0, 1) := by decide +kernel
theorem dX8_readLine_141 : decode cX8_readLine 141 = .ok (.invokevirtual 66, 3) := by decide +kernel
theorem dX8_readLine_144 : decode cX8_readLine 144 = .ok (.return_, 1) := by decide +kernel
def xX8_readLine_141   (s0 : Int32) (M : j_M) : Option (j_M) := obv (xX8_readAct s0 M) fun M1 => some M1
set_option maxRecDepth 20000 in
set_option maxHeartbeats 2000000 in
theorem tX8_readLine_141    (s0 : Int32) (M : j_M) : J (ρ := j_M) yX8_readLine cX8_readLine 3 none 5 110 j_ev 141 [] [.inl (s0), .inr (13, 0, 28)] M (xX8_readLine_141  s0 M) := by
  unfold xX8_readLine_141
  refine K_cvv (q := 144) [.inl (s0)] dX8_readLine_141 cb_X8_readAct cvRX8_66 rc_3 (show (13 : Nat) ≠ 0 by decide) rfl (Nat.le_of_ble_eq_true rfl) ⟨by decide, by decide⟩ (Nat.le_of_ble_eq_true rfl) rfl (tX8_readAct s0 M) rfl (fun M1 => ?_)
  exact J_vret dX8_readLine_144
def xX8_readLine_124   (l1 : Int32) (l2 : Int32) (M : j_M) : Option (j_M) := oli (M 28 5) fun v1 => (if v1 = (0 : Int32) then (if l1 = (0 : Int32) then xX8_readLine_141  (nI 0) M else xX8_readLine_141  l2 M) else some M)
set_option maxRecDepth 20000 in
set_option maxHeartbeats 2000000 in
theorem tX8_readLine_124    (l1 : Int32) (l2 : Int32) (M : j_M) : J (ρ := j_M) yX8_readLine cX8_readLine 3 none 5 110 j_ev 124 [(0, .inr (13, 0, 28)), (1, .inl (l1)), (2, .inl (l2))] [] M (xX8_readLine_124  l1 l2 M) := by
  unfold xX8_readLine_124
  refine K_aload_n (q := 125) 0 dX8_readLine_124 rfl rfl rfl ?_
  refine K_getI (q := 128) (ci := 3) 5 dX8_readLine_125 fRX8_31 rfl rfl rfl (fun v1 => ?_)
  refine K_if_ne (q := 131) (tgt := 144) dX8_readLine_128 rfl ?_ rfl ?_
  · exact J_vret dX8_readLine_144
  · refine K_aload_n (q := 132) 0 dX8_readLine_131 rfl rfl rfl ?_
    refine K_iload_n (q := 133) 1 dX8_readLine_132 rfl rfl rfl ?_
    refine K_if_eq (q := 136) (tgt := 140) dX8_readLine_133 rfl ?_ rfl ?_
    · refine K_iconst (q := 141) (v := nI 0) dX8_readLine_140 rfl rfl ?_
      exact J_sub [] (tX8_readLine_141  (nI 0) M) rfl
    · refine K_iload_n (q := 137) 2 dX8_readLine_136 rfl rfl rfl ?_
      refine J_goto (tgt := 141) dX8_readLine_137 rfl ?_
      exact J_sub [] (tX8_readLine_141  l2 M) rfl
def xX8_readLine_119   (l1 : Int32) (l2 : Int32) (M : j_M) : Option (j_M) := obv (xX8_refuse (nI 1) M) fun M1 => xX8_readLine_124  l1 l2 M1
set_option maxRecDepth 20000 in
set_option maxHeartbeats 2000000 in
theorem tX8_readLine_119    (l1 : Int32) (l2 : Int32) (M : j_M) : J (ρ := j_M) yX8_readLine cX8_readLine 3 none 5 110 j_ev 119 [(0, .inr (13, 0, 28)), (1, .inl (l1)), (2, .inl (l2))] [] M (xX8_readLine_119  l1 l2 M) := by
  unfold xX8_readLine_119
  refine K_aload_n (q := 120) 0 dX8_readLine_119 rfl rfl rfl ?_
  refine K_iconst (q := 121) (v := nI 1) dX8_readLine_120 rfl rfl ?_
  refine K_cvv (q := 124) [.inl ((nI 1))] dX8_readLine_121 cb_X8_refuse cvRX8_70 rc_3 (show (13 : Nat) ≠ 0 by decide) rfl (Nat.le_of_ble_eq_true rfl) ⟨by decide, by decide⟩ (Nat.le_of_ble_eq_true rfl) rfl (tX8_refuse (nI 1) M) rfl (fun M1 => ?_)
  exact J_sub [0, 1, 2] (tX8_readLine_124  l1 l2 M1) rfl
def xX8_readLine_79   (l1 : Int32) (l2 : Int32) (M : j_M) : Option (j_M) := oli (M 28 5) fun v1 => (if v1 = (0 : Int32) then (if l1 = (0 : Int32) then xX8_readLine_124  l1 l2 M else obv (xX8_readToken M) fun M2 => oli (M2 28 10) fun v3 => (if v3 = (nI 1) then oli (M2 28 11) fun v4 => (if v4 ≤ (nI 3) then xX8_readLine_124  l1 l2 M2 else oli (M2 28 11) fun v5 => (if v5 = (nI 6) then xX8_readLine_124  l1 l2 M2 else xX8_readLine_119  l1 l2 M2)) else xX8_readLine_119  l1 l2 M2)) else xX8_readLine_124  l1 l2 M)
set_option maxRecDepth 20000 in
set_option maxHeartbeats 2000000 in
theorem tX8_readLine_79    (l1 : Int32) (l2 : Int32) (M : j_M) : J (ρ := j_M) yX8_readLine cX8_readLine 3 none 5 110 j_ev 79 [(0, .inr (13, 0, 28)), (1, .inl (l1)), (2, .inl (l2))] [] M (xX8_readLine_79  l1 l2 M) := by
  unfold xX8_readLine_79
  refine K_aload_n (q := 80) 0 dX8_readLine_79 rfl rfl rfl ?_
  refine K_getI (q := 83) (ci := 3) 5 dX8_readLine_80 fRX8_31 rfl rfl rfl (fun v1 => ?_)
  refine K_if_ne (q := 86) (tgt := 124) dX8_readLine_83 rfl ?_ rfl ?_
  · exact J_sub [0, 1, 2] (tX8_readLine_124  l1 l2 M) rfl
  · refine K_iload_n (q := 87) 1 dX8_readLine_86 rfl rfl rfl ?_
    refine K_if_eq (q := 90) (tgt := 124) dX8_readLine_87 rfl ?_ rfl ?_
    · exact J_sub [0, 1, 2] (tX8_readLine_124  l1 l2 M) rfl
    · refine K_aload_n (q := 91) 0 dX8_readLine_90 rfl rfl rfl ?_
      refine K_cvv (q := 94) [] dX8_readLine_91 cb_X8_readToken cvRX8_49 rc_3 (show (13 : Nat) ≠ 0 by decide) rfl (Nat.le_of_ble_eq_true rfl) ⟨by decide, by decide⟩ (Nat.le_of_ble_eq_true rfl) rfl (tX8_readToken M) rfl (fun M2 => ?_)
      refine K_aload_n (q := 95) 0 dX8_readLine_94 rfl rfl rfl ?_
      refine K_getI (q := 98) (ci := 3) 10 dX8_readLine_95 fRX8_52 rfl rfl rfl (fun v3 => ?_)
      refine K_iconst (q := 99) (v := nI 1) dX8_readLine_98 rfl rfl ?_
      refine K_icmp_ne (q := 102) (tgt := 119) dX8_readLine_99 rfl ?_ rfl ?_
      · exact J_sub [0, 1, 2] (tX8_readLine_119  l1 l2 M2) rfl
      · refine K_aload_n (q := 103) 0 dX8_readLine_102 rfl rfl rfl ?_
        refine K_getI (q := 106) (ci := 3) 11 dX8_readLine_103 fRX8_58 rfl rfl rfl (fun v4 => ?_)
        refine K_iconst (q := 107) (v := nI 3) dX8_readLine_106 rfl rfl ?_
        refine K_icmp_le (q := 110) (tgt := 124) dX8_readLine_107 rfl ?_ rfl ?_
        · exact J_sub [0, 1, 2] (tX8_readLine_124  l1 l2 M2) rfl
        · refine K_aload_n (q := 111) 0 dX8_readLine_110 rfl rfl rfl ?_
          refine K_getI (q := 114) (ci := 3) 11 dX8_readLine_111 fRX8_58 rfl rfl rfl (fun v5 => ?_)
          refine K_bipush (q := 116) (v := nI 6) dX8_readLine_114 rfl rfl ?_
          refine K_icmp_eq (q := 119) (tgt := 124) dX8_readLine_116 rfl ?_ rfl ?_
          · exact J_sub [0, 1, 2] (tX8_readLine_124  l1 l2 M2) rfl
          · exact J_sub [0, 1, 2] (tX8_readLine_119  l1 l2 M2) rfl
def xX8_readLine_58   (l1 : Int32) (l2 : Int32) (M : j_M) : Option (j_M) := oli (M 28 5) fun v1 => (if v1 = (0 : Int32) then oli (M 28 7) fun v2 => (if v2 < (nI 24) then xX8_readLine_79  l1 l2 M else obv (xX8_refuse (nI 3) M) fun M3 => xX8_readLine_79  l1 l2 M3) else xX8_readLine_79  l1 l2 M)
set_option maxRecDepth 20000 in
set_option maxHeartbeats 2000000 in
theorem tX8_readLine_58    (l1 : Int32) (l2 : Int32) (M : j_M) : J (ρ := j_M) yX8_readLine cX8_readLine 3 none 5 110 j_ev 58 [(0, .inr (13, 0, 28)), (1, .inl (l1)), (2, .inl (l2))] [] M (xX8_readLine_58  l1 l2 M) := by
  unfold xX8_readLine_58
  refine K_aload_n (q := 59) 0 dX8_readLine_58 rfl rfl rfl ?_
  refine K_getI (q := 62) (ci := 3) 5 dX8_readLine_59 fRX8_31 rfl rfl rfl (fun v1 => ?_)
  refine K_if_ne (q := 65) (tgt := 79) dX8_readLine_62 rfl ?_ rfl ?_
  · exact J_sub [0, 1, 2] (tX8_readLine_79  l1 l2 M) rfl
  · refine K_aload_n (q := 66) 0 dX8_readLine_65 rfl rfl rfl ?_
    refine K_getI (q := 69) (ci := 3) 7 dX8_readLine_66 fRX8_40 rfl rfl rfl (fun v2 => ?_)
    refine K_bipush (q := 71) (v := nI 24) dX8_readLine_69 rfl rfl ?_
    refine K_icmp_lt (q := 74) (tgt := 79) dX8_readLine_71 rfl ?_ rfl ?_
    · exact J_sub [0, 1, 2] (tX8_readLine_79  l1 l2 M) rfl
    · refine K_aload_n (q := 75) 0 dX8_readLine_74 rfl rfl rfl ?_
      refine K_iconst (q := 76) (v := nI 3) dX8_readLine_75 rfl rfl ?_
      refine K_cvv (q := 79) [.inl ((nI 3))] dX8_readLine_76 cb_X8_refuse cvRX8_70 rc_3 (show (13 : Nat) ≠ 0 by decide) rfl (Nat.le_of_ble_eq_true rfl) ⟨by decide, by decide⟩ (Nat.le_of_ble_eq_true rfl) rfl (tX8_refuse (nI 3) M) rfl (fun M3 => ?_)
      exact J_sub [0, 1, 2] (tX8_readLine_79  l1 l2 M3) rfl
def xX8_readLine_53   (l1 : Int32) (l2 : Int32) (M : j_M) : Option (j_M) := obv (xX8_refuse (nI 1) M) fun M1 => xX8_readLine_58  l1 l2 M1
set_option maxRecDepth 20000 in
set_option maxHeartbeats 2000000 in
theorem tX8_readLine_53    (l1 : Int32) (l2 : Int32) (M : j_M) : J (ρ := j_M) yX8_readLine cX8_readLine 3 none 5 110 j_ev 53 [(0, .inr (13, 0, 28)), (1, .inl (l1)), (2, .inl (l2))] [] M (xX8_readLine_53  l1 l2 M) := by
  unfold xX8_readLine_53
  refine K_aload_n (q := 54) 0 dX8_readLine_53 rfl rfl rfl ?_
  refine K_iconst (q := 55) (v := nI 1) dX8_readLine_54 rfl rfl ?_
  refine K_cvv (q := 58) [.inl ((nI 1))] dX8_readLine_55 cb_X8_refuse cvRX8_70 rc_3 (show (13 : Nat) ≠ 0 by decide) rfl (Nat.le_of_ble_eq_true rfl) ⟨by decide, by decide⟩ (Nat.le_of_ble_eq_true rfl) rfl (tX8_refuse (nI 1) M) rfl (fun M1 => ?_)
  exact J_sub [0, 1, 2] (tX8_readLine_58  l1 l2 M1) rfl
def xX8_readLine_13   (s0 : Int32) (M : j_M) : Option (j_M) := oli (M 28 11) fun v1 => (if s0 = (0 : Int32) then oli (M 28 10) fun v2 => (if v2 = (nI 1) then oli (M 28 11) fun v3 => (if (nI 7) ≤ v3 then xX8_readLine_58  s0 v1 M else xX8_readLine_53  s0 v1 M) else xX8_readLine_53  s0 v1 M) else (if v1 ≤ (nI 5) then xX8_readLine_58  s0 v1 M else obv (xX8_refuse (nI 2) M) fun M4 => xX8_readLine_58  s0 v1 M4))
set_option maxRecDepth 20000 in
set_option maxHeartbeats 2000000 in
theorem tX8_readLine_13    (s0 : Int32) (M : j_M) : J (ρ := j_M) yX8_readLine cX8_readLine 3 none 5 110 j_ev 13 [(0, .inr (13, 0, 28))] [.inl (s0)] M (xX8_readLine_13  s0 M) := by
  unfold xX8_readLine_13
  refine K_istore_n (q := 14) (ll' := [(1, .inl (s0)), (0, .inr (13, 0, 28))]) dX8_readLine_13 rfl (by decide) rfl rfl ?_
  refine K_aload_n (q := 15) 1 dX8_readLine_14 rfl rfl rfl ?_
  refine K_getI (q := 18) (ci := 3) 11 dX8_readLine_15 fRX8_58 rfl rfl rfl (fun v1 => ?_)
  refine K_istore_n (q := 19) (ll' := [(2, .inl (v1)), (1, .inl (s0)), (0, .inr (13, 0, 28))]) dX8_readLine_18 rfl (by decide) rfl rfl ?_
  refine K_iload_n (q := 20) 1 dX8_readLine_19 rfl rfl rfl ?_
  refine K_if_eq (q := 23) (tgt := 36) dX8_readLine_20 rfl ?_ rfl ?_
  · refine K_aload_n (q := 37) 2 dX8_readLine_36 rfl rfl rfl ?_
    refine K_getI (q := 40) (ci := 3) 10 dX8_readLine_37 fRX8_52 rfl rfl rfl (fun v2 => ?_)
    refine K_iconst (q := 41) (v := nI 1) dX8_readLine_40 rfl rfl ?_
    refine K_icmp_ne (q := 44) (tgt := 53) dX8_readLine_41 rfl ?_ rfl ?_
    · exact J_sub [2, 1, 0] (tX8_readLine_53  s0 v1 M) rfl
    · refine K_aload_n (q := 45) 2 dX8_readLine_44 rfl rfl rfl ?_
      refine K_getI (q := 48) (ci := 3) 11 dX8_readLine_45 fRX8_58 rfl rfl rfl (fun v3 => ?_)
      refine K_bipush (q := 50) (v := nI 7) dX8_readLine_48 rfl rfl ?_
      refine K_icmp_ge (q := 53) (tgt := 58) dX8_readLine_50 rfl ?_ rfl ?_
      · exact J_sub [2, 1, 0] (tX8_readLine_58  s0 v1 M) rfl
      · exact J_sub [2, 1, 0] (tX8_readLine_53  s0 v1 M) rfl
  · refine K_iload_n (q := 24) 0 dX8_readLine_23 rfl rfl rfl ?_
    refine K_iconst (q := 25) (v := nI 5) dX8_readLine_24 rfl rfl ?_
    refine K_icmp_le (q := 28) (tgt := 58) dX8_readLine_25 rfl ?_ rfl ?_
    · exact J_sub [2, 1, 0] (tX8_readLine_58  s0 v1 M) rfl
    · refine K_aload_n (q := 29) 2 dX8_readLine_28 rfl rfl rfl ?_
      refine K_iconst (q := 30) (v := nI 2) dX8_readLine_29 rfl rfl ?_
      refine K_cvv (q := 33) [.inl ((nI 2))] dX8_readLine_30 cb_X8_refuse cvRX8_70 rc_3 (show (13 : Nat) ≠ 0 by decide) rfl (Nat.le_of_ble_eq_true rfl) ⟨by decide, by decide⟩ (Nat.le_of_ble_eq_true rfl) rfl (tX8_refuse (nI 2) M) rfl (fun M4 => ?_)
      refine J_goto (tgt := 58) dX8_readLine_33 rfl ?_
      exact J_sub [2, 1, 0] (tX8_readLine_58  s0 v1 M4) rfl
def xX8_readLine   (M : j_M) : Option (j_M) := oli (M 28 10) fun v1 => (if v1 = (nI 2) then xX8_readLine_13  (nI 1) M else xX8_readLine_13  (nI 0) M)
set_option maxRecDepth 20000 in
set_option maxHeartbeats 2000000 in
theorem tX8_readLine   (M : j_M) : J (ρ := j_M) yX8_readLine cX8_readLine 3 none 5 110 j_ev 0 [(0, .inr (13, 0, 28))] [] M (xX8_readLine   M) := by
  unfold xX8_readLine
  refine K_aload_n (q := 1) 0 dX8_readLine_0 rfl rfl rfl ?_
  refine K_getI (q := 4) (ci := 3) 10 dX8_readLine_1 fRX8_52 rfl rfl rfl (fun v1 => ?_)
  refine K_iconst (q := 5) (v := nI 2) dX8_readLine_4 rfl rfl ?_
  refine K_icmp_ne (q := 8) (tgt := 12) dX8_readLine_5 rfl ?_ rfl ?_
  · refine K_iconst (q := 13) (v := nI 0) dX8_readLine_12 rfl rfl ?_
    exact J_sub [0] (tX8_readLine_13  (nI 0) M) rfl
  · refine K_iconst (q := 9) (v := nI 1) dX8_readLine_8 rfl rfl ?_
    refine J_goto (tgt := 13) dX8_readLine_9 rfl ?_
    exact J_sub [0] (tX8_readLine_13  (nI 1) M) rfl
theorem dX8_startReading_0 : decode cX8_startReading 0 = .ok (.aload_n 0, 1) := by decide +kernel
theorem dX8_startReading_1 : decode cX8_startReading 1 = .ok (.iconst 0, 1) := by decide +kernel
theorem dX8_startReading_2 : decode cX8_startReading 2 = .ok (.putfield 37, 3) := by decide +kernel
theorem dX8_startReading_5 : decode cX8_startReading 5 = .ok (.aload_n 0, 1) := by decide +kernel
theorem dX8_startReading_6 : decode cX8_startReading 6 = .ok (.iconst 0, 1) := by decide +kernel
theorem dX8_startReading_7 : decode cX8_startReading 7 = .ok (.putfield 40, 3) := by decide +kernel
theorem dX8_startReading_10 : decode cX8_startReading 10 = .ok (.aload_n 0, 1) := by decide +kernel
theorem dX8_startReading_11 : decode cX8_startReading 11 = .ok (.iconst 0, 1) := by decide +kernel
theorem dX8_startReading_12 : decode cX8_startReading 12 = .ok (.putfield 43, 3) := by decide +kernel
theorem dX8_startReading_15 : decode cX8_startReading 15 = .ok (.return_, 1) := by decide +kernel
def xX8_startReading   (M : j_M) : Option (j_M) := oml (mw M 28 9 (nI 0)) fun M1 => oml (mw M1 28 7 (nI 0)) fun M2 => oml (mw M2 28 8 (nI 0)) fun M3 => some M3
set_option maxRecDepth 20000 in
set_option maxHeartbeats 2000000 in
theorem tX8_startReading   (M : j_M) : J (ρ := j_M) yX8_startReading cX8_startReading 1 none 0 0 j_ev 0 [(0, .inr (13, 0, 28))] [] M (xX8_startReading   M) := by
  unfold xX8_startReading
  refine K_aload_n (q := 1) 0 dX8_startReading_0 rfl rfl rfl ?_
  refine K_iconst (q := 2) (v := nI 0) dX8_startReading_1 rfl rfl ?_
  refine K_putI (q := 5) (ci := 3) 9 dX8_startReading_2 fRX8_37 fp_3_9 rfl rfl (by decide) rfl (fun M1 => ?_)
  refine K_aload_n (q := 6) 0 dX8_startReading_5 rfl rfl rfl ?_
  refine K_iconst (q := 7) (v := nI 0) dX8_startReading_6 rfl rfl ?_
  refine K_putI (q := 10) (ci := 3) 7 dX8_startReading_7 fRX8_40 fp_3_7 rfl rfl (by decide) rfl (fun M2 => ?_)
  refine K_aload_n (q := 11) 0 dX8_startReading_10 rfl rfl rfl ?_
  refine K_iconst (q := 12) (v := nI 0) dX8_startReading_11 rfl rfl ?_
  refine K_putI (q := 15) (ci := 3) 8 dX8_startReading_12 fRX8_43 fp_3_8 rfl rfl (by decide) rfl (fun M3 => ?_)
  exact J_vret dX8_startReading_15
theorem dX8_readPlan_0 : decode cX8_readPlan 0 = .ok (.aload_n 0, 1) := by decide +kernel
theorem dX8_readPlan_1 : decode cX8_readPlan 1 = .ok (.invokevirtual 46, 3) := by decide +kernel
theorem dX8_readPlan_4 : decode cX8_readPlan 4 = .ok (.iconst 1, 1) := by decide +kernel
theorem dX8_readPlan_5 : decode cX8_readPlan 5 = .ok (.istore_n 1, 1) := by decide +kernel
theorem dX8_readPlan_6 : decode cX8_readPlan 6 = .ok (.iconst 0, 1) := by decide +kernel
theorem dX8_readPlan_7 : decode cX8_readPlan 7 = .ok (.istore_n 2, 1) := by decide +kernel
theorem dX8_readPlan_8 : decode cX8_readPlan 8 = .ok (.iload_n 2, 1) := by decide +kernel
theorem dX8_readPlan_9 : decode cX8_readPlan 9 = .ok (.sipush 400, 3) := by decide +kernel
theorem dX8_readPlan_12 : decode cX8_readPlan 12 = .ok (.if_icmp .gt 46, 3) := by decide +kernel
theorem dX8_readPlan_15 : decode cX8_readPlan 15 = .ok (.iload_n 1, 1) := by decide +kernel
theorem dX8_readPlan_16 : decode cX8_readPlan 16 = .ok (.ifCond .eq 42, 3) := by decide +kernel
theorem dX8_readPlan_19 : decode cX8_readPlan 19 = .ok (.aload_n 0, 1) := by decide +kernel
theorem dX8_readPlan_20 : decode cX8_readPlan 20 = .ok (.invokevirtual 49, 3) := by decide +kernel
theorem dX8_readPlan_23 : decode cX8_readPlan 23 = .ok (.aload_n 0, 1) := by decide +kernel
theorem dX8_readPlan_24 : decode cX8_readPlan 24 = .ok (.getfield 52, 3) := by decide +kernel
theorem dX8_readPlan_27 : decode cX8_readPlan 27 = .ok (.ifCond .ne 8, 3) := by decide +kernel
theorem dX8_readPlan_30 : decode cX8_readPlan 30 = .ok (.iconst 0, 1) := by decide +kernel
theorem dX8_readPlan_31 : decode cX8_readPlan 31 = .ok (.istore_n 1, 1) := by decide +kernel
theorem dX8_readPlan_32 : decode cX8_readPlan 32 = .ok (.goto 20, 3) := by decide +kernel
theorem dX8_readPlan_35 : decode cX8_readPlan 35 = .ok (.aload_n 0, 1) := by decide +kernel
theorem dX8_readPlan_36 : decode cX8_readPlan 36 = .ok (.invokevirtual 80, 3) := by decide +kernel
theorem dX8_readPlan_39 : decode cX8_readPlan 39 = .ok (.aload_n 0, 1) := by decide +kernel
theorem dX8_readPlan_40 : decode cX8_readPlan 40 = .ok (.getfield 31, 3) := by decide +kernel
theorem dX8_readPlan_43 : decode cX8_readPlan 43 = .ok (.ifCond .ne 7, 3) := by decide +kernel
theorem dX8_readPlan_46 : decode cX8_readPlan 46 = .ok (.iconst 1, 1) := by decide +kernel
theorem dX8_readPlan_47 : decode cX8_readPlan 47 = .ok (.goto 4, 3) := by decide +kernel
theorem dX8_readPlan_50 : decode cX8_readPlan 50 = .ok (.iconst 0, 1) := by decide +kernel
theorem dX8_readPlan_51 : decode cX8_readPlan 51 = .ok (.istore_n 1, 1) := by decide +kernel
theorem dX8_readPlan_52 : decode cX8_readPlan 52 = .ok (.iinc 2 1, 3) := by decide +kernel
theorem dX8_readPlan_55 : decode cX8_readPlan 55 = .ok (.goto (-47), 3) := by decide +kernel
theorem dX8_readPlan_58 : decode cX8_readPlan 58 = .ok (.aload_n 0, 1) := by decide +kernel
theorem dX8_readPlan_59 : decode cX8_readPlan 59 = .ok (.getfield 31, 3) := by decide +kernel
theorem dX8_readPlan_62 : decode cX8_readPlan 62 = .ok (.ifCond .ne 10, 3) := by decide +kernel
theorem dX8_readPlan_65 : decode cX8_readPlan 65 = .ok (.aload_n 0, 1) := by decide +kernel
theorem dX8_readPlan_66 : decode cX8_readPlan 66 = .ok (.getfield 40, 3) := by decide +kernel
theorem dX8_readPlan_69 : decode cX8_readPlan 69 = .ok (.goto 4, 3) := by decide +kernel
theorem dX8_readPlan_72 : decode cX8_readPlan 72 = .ok (.iconst (-1), 1) := by decide +kernel
theorem dX8_readPlan_73 : decode cX8_readPlan 73 = .ok (.ireturn, 1) := by decide +kernel
def xX8_readPlan_58    (M : j_M) : Option (Int32 × j_M) := oli (M 28 5) fun v1 => (if v1 = (0 : Int32) then oli (M 28 7) fun v2 => some (v2, M) else some ((-1 : Int32), M))
set_option maxRecDepth 20000 in
set_option maxHeartbeats 2000000 in
theorem tX8_readPlan_58     (M : j_M) : J (ρ := Int32 × j_M) yX8_readPlan cX8_readPlan 3 (some .int) 6 132 j_ei 58 [(0, .inr (13, 0, 28))] [] M (xX8_readPlan_58   M) := by
  unfold xX8_readPlan_58
  refine K_aload_n (q := 59) 0 dX8_readPlan_58 rfl rfl rfl ?_
  refine K_getI (q := 62) (ci := 3) 5 dX8_readPlan_59 fRX8_31 rfl rfl rfl (fun v1 => ?_)
  refine K_if_ne (q := 65) (tgt := 72) dX8_readPlan_62 rfl ?_ rfl ?_
  · refine K_iconst (q := 73) (v := -1) dX8_readPlan_72 rfl rfl ?_
    exact J_iret dX8_readPlan_73
  · refine K_aload_n (q := 66) 0 dX8_readPlan_65 rfl rfl rfl ?_
    refine K_getI (q := 69) (ci := 3) 7 dX8_readPlan_66 fRX8_40 rfl rfl rfl (fun v2 => ?_)
    refine J_goto (tgt := 73) dX8_readPlan_69 rfl ?_
    exact J_iret dX8_readPlan_73
def xX8_readPlan_51 (k8 : Int32 → Int32 → j_M → Option (Int32 × j_M))  (l2 : Int32) (s0 : Int32) (M : j_M) : Option (Int32 × j_M) := k8 s0 (l2 + (nI 1)) M
set_option maxRecDepth 20000 in
set_option maxHeartbeats 2000000 in
theorem tX8_readPlan_51 (k8 : Int32 → Int32 → j_M → Option (Int32 × j_M))  (hk8 : ∀ (l1 : Int32) (l2 : Int32) (M : j_M), J (ρ := Int32 × j_M) yX8_readPlan cX8_readPlan 3 (some .int) 6 132 j_ei 8 [(0, .inr (13, 0, 28)), (1, .inl (l1)), (2, .inl (l2))] [] M (k8 l1 l2 M)) (l2 : Int32) (s0 : Int32) (M : j_M) : J (ρ := Int32 × j_M) yX8_readPlan cX8_readPlan 3 (some .int) 6 132 j_ei 51 [(0, .inr (13, 0, 28)), (2, .inl (l2))] [.inl (s0)] M (xX8_readPlan_51 k8 l2 s0 M) := by
  unfold xX8_readPlan_51
  refine K_istore_n (q := 52) (ll' := [(1, .inl (s0)), (0, .inr (13, 0, 28)), (2, .inl (l2))]) dX8_readPlan_51 rfl (by decide) rfl rfl ?_
  refine K_iinc (q := 55) (v := l2 + (nI 1)) (ll' := [(2, .inl (l2 + (nI 1))), (1, .inl (s0)), (0, .inr (13, 0, 28))]) 2 dX8_readPlan_52 rfl rfl (by decide) rfl rfl ?_
  refine J_goto (tgt := 8) dX8_readPlan_55 rfl ?_
  exact J_sub [2, 1, 0] (hk8 s0 (l2 + (nI 1)) M) rfl
def xX8_readPlan_8   : Nat → Int32 → Int32 → j_M → Option (Int32 × j_M)
  | 0, _, _, _ => none
  | n + 1, l1, l2, M => (if (nI 400) < l2 then xX8_readPlan_58  M else (if l1 = (0 : Int32) then xX8_readPlan_58  M else obv (xX8_readToken M) fun M1 => oli (M1 28 10) fun v2 => (if v2 = (0 : Int32) then xX8_readPlan_8  n (nI 0) (l2 + (nI 1)) M1 else obv (xX8_readLine M1) fun M3 => oli (M3 28 5) fun v4 => (if v4 = (0 : Int32) then xX8_readPlan_51 (xX8_readPlan_8  n) l2 (nI 1) M3 else xX8_readPlan_51 (xX8_readPlan_8  n) l2 (nI 0) M3))))
set_option maxRecDepth 20000 in
set_option maxHeartbeats 2000000 in
theorem tX8_readPlan_8    : ∀ (n : Nat) (l1 : Int32) (l2 : Int32) (M : j_M), J (ρ := Int32 × j_M) yX8_readPlan cX8_readPlan 3 (some .int) 6 132 j_ei 8 [(0, .inr (13, 0, 28)), (1, .inl (l1)), (2, .inl (l2))] [] M (xX8_readPlan_8  n l1 l2 M) := by
  intro n
  induction n with
  | zero => intros; exact J_none
  | succ n ih =>
    intro l1 l2 M
    rw [xX8_readPlan_8.eq_2]
    refine K_iload_n (q := 9) 2 dX8_readPlan_8 rfl rfl rfl ?_
    refine K_sipush (q := 12) (v := nI 400) dX8_readPlan_9 rfl rfl ?_
    refine K_icmp_gt (q := 15) (tgt := 58) dX8_readPlan_12 rfl ?_ rfl ?_
    · exact J_sub [0] (tX8_readPlan_58  M) rfl
    · refine K_iload_n (q := 16) 1 dX8_readPlan_15 rfl rfl rfl ?_
      refine K_if_eq (q := 19) (tgt := 58) dX8_readPlan_16 rfl ?_ rfl ?_
      · exact J_sub [0] (tX8_readPlan_58  M) rfl
      · refine K_aload_n (q := 20) 0 dX8_readPlan_19 rfl rfl rfl ?_
        refine K_cvv (q := 23) [] dX8_readPlan_20 cb_X8_readToken cvRX8_49 rc_3 (show (13 : Nat) ≠ 0 by decide) rfl (Nat.le_of_ble_eq_true rfl) ⟨by decide, by decide⟩ (Nat.le_of_ble_eq_true rfl) rfl (tX8_readToken M) rfl (fun M1 => ?_)
        refine K_aload_n (q := 24) 0 dX8_readPlan_23 rfl rfl rfl ?_
        refine K_getI (q := 27) (ci := 3) 10 dX8_readPlan_24 fRX8_52 rfl rfl rfl (fun v2 => ?_)
        refine K_if_ne (q := 30) (tgt := 35) dX8_readPlan_27 rfl ?_ rfl ?_
        · refine K_aload_n (q := 36) 0 dX8_readPlan_35 rfl rfl rfl ?_
          refine K_cvv (q := 39) [] dX8_readPlan_36 cb_X8_readLine cvRX8_80 rc_3 (show (13 : Nat) ≠ 0 by decide) rfl (Nat.le_of_ble_eq_true rfl) ⟨by decide, by decide⟩ (Nat.le_of_ble_eq_true rfl) rfl (tX8_readLine M1) rfl (fun M3 => ?_)
          refine K_aload_n (q := 40) 0 dX8_readPlan_39 rfl rfl rfl ?_
          refine K_getI (q := 43) (ci := 3) 5 dX8_readPlan_40 fRX8_31 rfl rfl rfl (fun v4 => ?_)
          refine K_if_ne (q := 46) (tgt := 50) dX8_readPlan_43 rfl ?_ rfl ?_
          · refine K_iconst (q := 51) (v := nI 0) dX8_readPlan_50 rfl rfl ?_
            exact J_sub [0, 2] (tX8_readPlan_51 (xX8_readPlan_8  n) ih l2 (nI 0) M3) rfl
          · refine K_iconst (q := 47) (v := nI 1) dX8_readPlan_46 rfl rfl ?_
            refine J_goto (tgt := 51) dX8_readPlan_47 rfl ?_
            exact J_sub [0, 2] (tX8_readPlan_51 (xX8_readPlan_8  n) ih l2 (nI 1) M3) rfl
        · refine K_iconst (q := 31) (v := nI 0) dX8_readPlan_30 rfl rfl ?_
          refine K_istore_n (q := 32) (ll' := [(1, .inl ((nI 0))), (0, .inr (13, 0, 28)), (2, .inl (l2))]) dX8_readPlan_31 rfl (by decide) rfl rfl ?_
          refine J_goto (tgt := 52) dX8_readPlan_32 rfl ?_
          refine K_iinc (q := 55) (v := l2 + (nI 1)) (ll' := [(2, .inl (l2 + (nI 1))), (1, .inl ((nI 0))), (0, .inr (13, 0, 28))]) 2 dX8_readPlan_52 rfl rfl (by decide) rfl rfl ?_
          refine J_goto (tgt := 8) dX8_readPlan_55 rfl ?_
          exact J_sub [2, 1, 0] (ih (nI 0) (l2 + (nI 1)) M1) rfl
def xX8_readPlan   (M : j_M) : Option (Int32 × j_M) := obv (xX8_startReading M) fun M1 => xX8_readPlan_8 fu (nI 1) (nI 0) M1
set_option maxRecDepth 20000 in
set_option maxHeartbeats 2000000 in
theorem tX8_readPlan   (M : j_M) : J (ρ := Int32 × j_M) yX8_readPlan cX8_readPlan 3 (some .int) 6 132 j_ei 0 [(0, .inr (13, 0, 28))] [] M (xX8_readPlan   M) := by
  unfold xX8_readPlan
  refine K_aload_n (q := 1) 0 dX8_readPlan_0 rfl rfl rfl ?_
  refine K_cvv (q := 4) [] dX8_readPlan_1 cb_X8_startReading cvRX8_46 rc_3 (show (13 : Nat) ≠ 0 by decide) rfl (Nat.le_of_ble_eq_true rfl) ⟨by decide, by decide⟩ (Nat.le_of_ble_eq_true rfl) rfl (tX8_startReading M) rfl (fun M1 => ?_)
  refine K_iconst (q := 5) (v := nI 1) dX8_readPlan_4 rfl rfl ?_
  refine K_istore_n (q := 6) (ll' := [(1, .inl ((nI 1))), (0, .inr (13, 0, 28))]) dX8_readPlan_5 rfl (by decide) rfl rfl ?_
  refine K_iconst (q := 7) (v := nI 0) dX8_readPlan_6 rfl rfl ?_
  refine K_istore_n (q := 8) (ll' := [(2, .inl ((nI 0))), (1, .inl ((nI 1))), (0, .inr (13, 0, 28))]) dX8_readPlan_7 rfl (by decide) rfl rfl ?_
  exact J_sub [2, 1, 0] (tX8_readPlan_8 fu (nI 1) (nI 0) M1) rfl
theorem dX8_closeLoop_0 : decode cX8_closeLoop 0 = .ok (.aload_n 0, 1) := by decide +kernel
theorem dX8_closeLoop_1 : decode cX8_closeLoop 1 = .ok (.dup, 1) := by decide +kernel
theorem dX8_closeLoop_2 : decode cX8_closeLoop 2 = .ok (.getfield 43, 3) := by decide +kernel
theorem dX8_closeLoop_5 : decode cX8_closeLoop 5 = .ok (.iconst 1, 1) := by decide +kernel
theorem dX8_closeLoop_6 : decode cX8_closeLoop 6 = .ok (.isub, 1) := by decide +kernel
theorem dX8_closeLoop_7 : decode cX8_closeLoop 7 = .ok (.putfield 43, 3) := by decide +kernel
theorem dX8_closeLoop_10 : decode cX8_closeLoop 10 = .ok (.aload_n 0, 1) := by decide +kernel
theorem dX8_closeLoop_11 : decode cX8_closeLoop 11 = .ok (.getfield 18, 3) := by decide +kernel
theorem dX8_closeLoop_14 : decode cX8_closeLoop 14 = .ok (.aload_n 0, 1) := by decide +kernel
theorem dX8_closeLoop_15 : decode cX8_closeLoop 15 = .ok (.getfield 43, 3) := by decide +kernel
theorem dX8_closeLoop_18 : decode cX8_closeLoop 18 = .ok (.iaload, 1) := by decide +kernel
theorem dX8_closeLoop_19 : decode cX8_closeLoop 19 = .ok (.istore_n 1, 1) := by decide +kernel
theorem dX8_closeLoop_20 : decode cX8_closeLoop 20 = .ok (.aload_n 0, 1) := by decide +kernel
theorem dX8_closeLoop_21 : decode cX8_closeLoop 21 = .ok (.getfield 40, 3) := by decide +kernel
theorem dX8_closeLoop_24 : decode cX8_closeLoop 24 = .ok (.iload_n 1, 1) := by decide +kernel
theorem dX8_closeLoop_25 : decode cX8_closeLoop 25 = .ok (.isub, 1) := by decide +kernel
theorem dX8_closeLoop_26 : decode cX8_closeLoop 26 = .ok (.istore_n 2, 1) := by decide +kernel
theorem dX8_closeLoop_27 : decode cX8_closeLoop 27 = .ok (.iload_n 1, 1) := by decide +kernel
theorem dX8_closeLoop_28 : decode cX8_closeLoop 28 = .ok (.iload_n 2, 1) := by decide +kernel
theorem dX8_closeLoop_29 : decode cX8_closeLoop 29 = .ok (.aload_n 0, 1) := by decide +kernel
theorem dX8_closeLoop_30 : decode cX8_closeLoop 30 = .ok (.getfield 21, 3) := by decide +kernel
theorem dX8_closeLoop_33 : decode cX8_closeLoop 33 = .ok (.aload_n 0, 1) := by decide +kernel
theorem dX8_closeLoop_34 : decode cX8_closeLoop 34 = .ok (.getfield 43, 3) := by decide +kernel
theorem dX8_closeLoop_37 : decode cX8_closeLoop 37 = .ok (.iaload, 1) := by decide +kernel
theorem dX8_closeLoop_38 : decode cX8_closeLoop 38 = .ok (.imul, 1) := by decide +kernel
theorem dX8_closeLoop_39 : decode cX8_closeLoop 39 = .ok (.iadd, 1) := by decide +kernel
theorem dX8_closeLoop_40 : decode cX8_closeLoop 40 = .ok (.istore_n 3, 1) := by decide +kernel
theorem dX8_closeLoop_41 : decode cX8_closeLoop 41 = .ok (.aload_n 0, 1) := by decide +kernel
theorem dX8_closeLoop_42 : decode cX8_closeLoop 42 = .ok (.getfield 40, 3) := by decide +kernel
theorem dX8_closeLoop_45 : decode cX8_closeLoop 45 = .ok (.istore 4, 2) := by decide +kernel
theorem dX8_closeLoop_47 : decode cX8_closeLoop 47 = .ok (.iload 4, 2) := by decide +kernel
theorem dX8_closeLoop_49 : decode cX8_closeLoop 49 = .ok (.iload_n 3, 1) := by decide +kernel
theorem dX8_closeLoop_50 : decode cX8_closeLoop 50 = .ok (.if_icmp .ge 33, 3) := by decide +kernel
theorem dX8_closeLoop_53 : decode cX8_closeLoop 53 = .ok (.iload 4, 2) := by decide +kernel
theorem dX8_closeLoop_55 : decode cX8_closeLoop 55 = .ok (.sipush 200, 3) := by decide +kernel
theorem dX8_closeLoop_58 : decode cX8_closeLoop 58 = .ok (.if_icmp .ge 25, 3) := by decide +kernel
theorem dX8_closeLoop_61 : decode cX8_closeLoop 61 = .ok (.aload_n 0, 1) := by decide +kernel
theorem dX8_closeLoop_62 : decode cX8_closeLoop 62 = .ok (.getfield 15, 3) := by decide +kernel
theorem dX8_closeLoop_65 : decode cX8_closeLoop 65 = .ok (.iload 4, 2) := by decide +kernel
theorem dX8_closeLoop_67 : decode cX8_closeLoop 67 = .ok (.aload_n 0, 1) := by decide +kernel
theorem dX8_closeLoop_68 : decode cX8_closeLoop 68 = .ok (.getfield 15, 3) := by decide +kernel
theorem dX8_closeLoop_71 : decode cX8_closeLoop 71 = .ok (.iload 4, 2) := by decide +kernel
theorem dX8_closeLoop_73 : decode cX8_closeLoop 73 = .ok (.iload_n 2, 1) := by decide +kernel
theorem dX8_closeLoop_74 : decode cX8_closeLoop 74 = .ok (.isub, 1) := by decide +kernel
theorem dX8_closeLoop_75 : decode cX8_closeLoop 75 = .ok (.iaload, 1) := by decide +kernel
theorem dX8_closeLoop_76 : decode cX8_closeLoop 76 = .ok (.iastore, 1) := by decide +kernel
theorem dX8_closeLoop_77 : decode cX8_closeLoop 77 = .ok (.iinc 4 1, 3) := by decide +kernel
theorem dX8_closeLoop_80 : decode cX8_closeLoop 80 = .ok (.goto (-33), 3) := by decide +kernel
theorem dX8_closeLoop_83 : decode cX8_closeLoop 83 = .ok (.aload_n 0, 1) := by decide +kernel
theorem dX8_closeLoop_84 : decode cX8_closeLoop 84 = .ok (.iload_n 3, 1) := by decide +kernel
theorem dX8_closeLoop_85 : decode cX8_closeLoop 85 = .ok (.putfield 40, 3) := by decide +kernel
theorem dX8_closeLoop_88 : decode cX8_closeLoop 88 = .ok (.return_, 1) := by decide +kernel
def xX8_closeLoop_83   (l3 : Int32) (M : j_M) : Option (j_M) := oml (mw M 28 7 l3) fun M1 => some M1
set_option maxRecDepth 20000 in
set_option maxHeartbeats 2000000 in
theorem tX8_closeLoop_83    (l3 : Int32) (M : j_M) : J (ρ := j_M) yX8_closeLoop cX8_closeLoop 5 none 0 0 j_ev 83 [(0, .inr (13, 0, 28)), (3, .inl (l3))] [] M (xX8_closeLoop_83  l3 M) := by
  unfold xX8_closeLoop_83
  refine K_aload_n (q := 84) 0 dX8_closeLoop_83 rfl rfl rfl ?_
  refine K_iload_n (q := 85) 1 dX8_closeLoop_84 rfl rfl rfl ?_
  refine K_putI (q := 88) (ci := 3) 7 dX8_closeLoop_85 fRX8_40 fp_3_7 rfl rfl (by decide) rfl (fun M1 => ?_)
  exact J_vret dX8_closeLoop_88
def xX8_closeLoop_47   : Nat → Int32 → Int32 → Int32 → j_M → Option (j_M)
  | 0, _, _, _, _ => none
  | n + 1, l2, l3, l4, M => (if l3 ≤ l4 then xX8_closeLoop_83  l3 M else (if (nI 200) ≤ l4 then xX8_closeLoop_83  l3 M else gd (l4 - l2) 200 (oli (M 30 (ix (l4 - l2))) fun v1 => gd l4 200 (oml (mw M 30 (ix l4) v1) fun M2 => xX8_closeLoop_47  n l2 l3 (l4 + (nI 1)) M2))))
set_option maxRecDepth 20000 in
set_option maxHeartbeats 2000000 in
theorem tX8_closeLoop_47    : ∀ (n : Nat) (l2 : Int32) (l3 : Int32) (l4 : Int32) (M : j_M), J (ρ := j_M) yX8_closeLoop cX8_closeLoop 5 none 0 0 j_ev 47 [(0, .inr (13, 0, 28)), (2, .inl (l2)), (3, .inl (l3)), (4, .inl (l4))] [] M (xX8_closeLoop_47  n l2 l3 l4 M) := by
  intro n
  induction n with
  | zero => intros; exact J_none
  | succ n ih =>
    intro l2 l3 l4 M
    rw [xX8_closeLoop_47.eq_2]
    refine K_iload (q := 49) 3 dX8_closeLoop_47 rfl rfl ?_
    refine K_iload_n (q := 50) 2 dX8_closeLoop_49 rfl rfl rfl ?_
    refine K_icmp_ge (q := 53) (tgt := 83) dX8_closeLoop_50 rfl ?_ rfl ?_
    · exact J_sub [0, 2] (tX8_closeLoop_83  l3 M) rfl
    · refine K_iload (q := 55) 3 dX8_closeLoop_53 rfl rfl ?_
      refine K_sipush (q := 58) (v := nI 200) dX8_closeLoop_55 rfl rfl ?_
      refine K_icmp_ge (q := 61) (tgt := 83) dX8_closeLoop_58 rfl ?_ rfl ?_
      · exact J_sub [0, 2] (tX8_closeLoop_83  l3 M) rfl
      · refine K_aload_n (q := 62) 0 dX8_closeLoop_61 rfl rfl rfl ?_
        refine K_getR (q := 65) (ci := 3) (a2 := 30) 1 dX8_closeLoop_62 fRX8_15 rfl rfl (by decide) rfl rfl ?_
        refine K_iload (q := 67) 3 dX8_closeLoop_65 rfl rfl ?_
        refine K_aload_n (q := 68) 0 dX8_closeLoop_67 rfl rfl rfl ?_
        refine K_getR (q := 71) (ci := 3) (a2 := 30) 1 dX8_closeLoop_68 fRX8_15 rfl rfl (by decide) rfl rfl ?_
        refine K_iload (q := 73) 3 dX8_closeLoop_71 rfl rfl ?_
        refine K_iload_n (q := 74) 1 dX8_closeLoop_73 rfl rfl rfl ?_
        refine K_isub (q := 75) dX8_closeLoop_74 rfl ?_
        refine K_iald (q := 76) dX8_closeLoop_75 rfl (fun v1 => ?_)
        refine K_iast (q := 77) dX8_closeLoop_76 rfl (fun M2 => ?_)
        refine K_iinc (q := 80) (v := l4 + (nI 1)) (ll' := [(4, .inl (l4 + (nI 1))), (0, .inr (13, 0, 28)), (2, .inl (l2)), (3, .inl (l3))]) 3 dX8_closeLoop_77 rfl rfl (by decide) rfl rfl ?_
        refine J_goto (tgt := 47) dX8_closeLoop_80 rfl ?_
        exact J_sub [1, 2, 3, 0] (ih l2 l3 (l4 + (nI 1)) M2) rfl
def xX8_closeLoop   (M : j_M) : Option (j_M) := oli (M 28 8) fun v1 => oml (mw M 28 8 (v1 - (nI 1))) fun M2 => oli (M2 28 8) fun v3 => gd v3 3 (oli (M2 31 (ix v3)) fun v4 => oli (M2 28 7) fun v5 => oli (M2 28 8) fun v6 => gd v6 3 (oli (M2 32 (ix v6)) fun v7 => oli (M2 28 7) fun v8 => xX8_closeLoop_47 fu (v5 - v4) (v4 + ((v5 - v4) * v7)) v8 M2))
set_option maxRecDepth 20000 in
set_option maxHeartbeats 2000000 in
theorem tX8_closeLoop   (M : j_M) : J (ρ := j_M) yX8_closeLoop cX8_closeLoop 5 none 0 0 j_ev 0 [(0, .inr (13, 0, 28))] [] M (xX8_closeLoop   M) := by
  unfold xX8_closeLoop
  refine K_aload_n (q := 1) 0 dX8_closeLoop_0 rfl rfl rfl ?_
  refine K_dup (q := 2) dX8_closeLoop_1 rfl ?_
  refine K_getI (q := 5) (ci := 3) 8 dX8_closeLoop_2 fRX8_43 rfl rfl rfl (fun v1 => ?_)
  refine K_iconst (q := 6) (v := nI 1) dX8_closeLoop_5 rfl rfl ?_
  refine K_isub (q := 7) dX8_closeLoop_6 rfl ?_
  refine K_putI (q := 10) (ci := 3) 8 dX8_closeLoop_7 fRX8_43 fp_3_8 rfl rfl (by decide) rfl (fun M2 => ?_)
  refine K_aload_n (q := 11) 0 dX8_closeLoop_10 rfl rfl rfl ?_
  refine K_getR (q := 14) (ci := 3) (a2 := 31) 2 dX8_closeLoop_11 fRX8_18 rfl rfl (by decide) rfl rfl ?_
  refine K_aload_n (q := 15) 0 dX8_closeLoop_14 rfl rfl rfl ?_
  refine K_getI (q := 18) (ci := 3) 8 dX8_closeLoop_15 fRX8_43 rfl rfl rfl (fun v3 => ?_)
  refine K_iald (q := 19) dX8_closeLoop_18 rfl (fun v4 => ?_)
  refine K_istore_n (q := 20) (ll' := [(1, .inl (v4)), (0, .inr (13, 0, 28))]) dX8_closeLoop_19 rfl (by decide) rfl rfl ?_
  refine K_aload_n (q := 21) 1 dX8_closeLoop_20 rfl rfl rfl ?_
  refine K_getI (q := 24) (ci := 3) 7 dX8_closeLoop_21 fRX8_40 rfl rfl rfl (fun v5 => ?_)
  refine K_iload_n (q := 25) 0 dX8_closeLoop_24 rfl rfl rfl ?_
  refine K_isub (q := 26) dX8_closeLoop_25 rfl ?_
  refine K_istore_n (q := 27) (ll' := [(2, .inl (v5 - v4)), (1, .inl (v4)), (0, .inr (13, 0, 28))]) dX8_closeLoop_26 rfl (by decide) rfl rfl ?_
  refine K_iload_n (q := 28) 1 dX8_closeLoop_27 rfl rfl rfl ?_
  refine K_iload_n (q := 29) 0 dX8_closeLoop_28 rfl rfl rfl ?_
  refine K_aload_n (q := 30) 2 dX8_closeLoop_29 rfl rfl rfl ?_
  refine K_getR (q := 33) (ci := 3) (a2 := 32) 3 dX8_closeLoop_30 fRX8_21 rfl rfl (by decide) rfl rfl ?_
  refine K_aload_n (q := 34) 2 dX8_closeLoop_33 rfl rfl rfl ?_
  refine K_getI (q := 37) (ci := 3) 8 dX8_closeLoop_34 fRX8_43 rfl rfl rfl (fun v6 => ?_)
  refine K_iald (q := 38) dX8_closeLoop_37 rfl (fun v7 => ?_)
  refine K_imul (q := 39) dX8_closeLoop_38 rfl ?_
  refine K_iadd (q := 40) dX8_closeLoop_39 rfl ?_
  refine K_istore_n (q := 41) (ll' := [(3, .inl (v4 + ((v5 - v4) * v7))), (2, .inl (v5 - v4)), (1, .inl (v4)), (0, .inr (13, 0, 28))]) dX8_closeLoop_40 rfl (by decide) rfl rfl ?_
  refine K_aload_n (q := 42) 3 dX8_closeLoop_41 rfl rfl rfl ?_
  refine K_getI (q := 45) (ci := 3) 7 dX8_closeLoop_42 fRX8_40 rfl rfl rfl (fun v8 => ?_)
  refine K_istore (q := 47) (ll' := [(4, .inl (v8)), (3, .inl (v4 + ((v5 - v4) * v7))), (2, .inl (v5 - v4)), (1, .inl (v4)), (0, .inr (13, 0, 28))]) dX8_closeLoop_45 (by decide) rfl rfl ?_
  exact J_sub [4, 2, 1, 0] (tX8_closeLoop_47 fu (v5 - v4) (v4 + ((v5 - v4) * v7)) v8 M2) rfl
theorem dX8_openLoop_0 : decode cX8_openLoop 0 = .ok (.aload_n 0, 1) := by decide +kernel
theorem dX8_openLoop_1 : decode cX8_openLoop 1 = .ok (.getfield 43, 3) := by decide +kernel
theorem dX8_openLoop_4 : decode cX8_openLoop 4 = .ok (.iconst 3, 1) := by decide +kernel
theorem dX8_openLoop_5 : decode cX8_openLoop 5 = .ok (.if_icmp .lt 9, 3) := by decide +kernel
theorem dX8_openLoop_8 : decode cX8_openLoop 8 = .ok (.aload_n 0, 1) := by decide +kernel
theorem dX8_openLoop_9 : decode cX8_openLoop 9 = .ok (.iconst 3, 1) := by decide +kernel
theorem dX8_openLoop_10 : decode cX8_openLoop 10 = .ok (.invokevirtual 70, 3) := by decide +kernel
theorem dX8_openLoop_13 : decode cX8_openLoop 13 = .ok (.return_, 1) := by decide +kernel
theorem dX8_openLoop_14 : decode cX8_openLoop 14 = .ok (.aload_n 0, 1) := by decide +kernel
theorem dX8_openLoop_15 : decode cX8_openLoop 15 = .ok (.iconst 1, 1) := by decide +kernel
theorem dX8_openLoop_16 : decode cX8_openLoop 16 = .ok (.bipush 9, 2) := by decide +kernel
theorem dX8_openLoop_18 : decode cX8_openLoop 18 = .ok (.invokevirtual 73, 3) := by decide +kernel
theorem dX8_openLoop_21 : decode cX8_openLoop 21 = .ok (.istore_n 1, 1) := by decide +kernel
theorem dX8_openLoop_22 : decode cX8_openLoop 22 = .ok (.aload_n 0, 1) := by decide +kernel
theorem dX8_openLoop_23 : decode cX8_openLoop 23 = .ok (.iconst 4, 1) := by decide +kernel
theorem dX8_openLoop_24 : decode cX8_openLoop 24 = .ok (.invokevirtual 77, 3) := by decide +kernel
theorem dX8_openLoop_27 : decode cX8_openLoop 27 = .ok (.aload_n 0, 1) := by decide +kernel
theorem dX8_openLoop_28 : decode cX8_openLoop 28 = .ok (.getfield 18, 3) := by decide +kernel
theorem dX8_openLoop_31 : decode cX8_openLoop 31 = .ok (.aload_n 0, 1) := by decide +kernel
theorem dX8_openLoop_32 : decode cX8_openLoop 32 = .ok (.getfield 43, 3) := by decide +kernel
theorem dX8_openLoop_35 : decode cX8_openLoop 35 = .ok (.aload_n 0, 1) := by decide +kernel
theorem dX8_openLoop_36 : decode cX8_openLoop 36 = .ok (.getfield 40, 3) := by decide +kernel
theorem dX8_openLoop_39 : decode cX8_openLoop 39 = .ok (.iastore, 1) := by decide +kernel
theorem dX8_openLoop_40 : decode cX8_openLoop 40 = .ok (.aload_n 0, 1) := by decide +kernel
theorem dX8_openLoop_41 : decode cX8_openLoop 41 = .ok (.getfield 21, 3) := by decide +kernel
theorem dX8_openLoop_44 : decode cX8_openLoop 44 = .ok (.aload_n 0, 1) := by decide +kernel
theorem dX8_openLoop_45 : decode cX8_openLoop 45 = .ok (.getfield 43, 3) := by decide +kernel
theorem dX8_openLoop_48 : decode cX8_openLoop 48 = .ok (.iload_n 1, 1) := by decide +kernel
theorem dX8_openLoop_49 : decode cX8_openLoop 49 = .ok (.iastore, 1) := by decide +kernel
theorem dX8_openLoop_50 : decode cX8_openLoop 50 = .ok (.aload_n 0, 1) := by decide +kernel
theorem dX8_openLoop_51 : decode cX8_openLoop 51 = .ok (.dup, 1) := by decide +kernel
theorem dX8_openLoop_52 : decode cX8_openLoop 52 = .ok (.getfield 43, 3) := by decide +kernel
theorem dX8_openLoop_55 : decode cX8_openLoop 55 = .ok (.iconst 1, 1) := by decide +kernel
theorem dX8_openLoop_56 : decode cX8_openLoop 56 = .ok (.iadd, 1) := by decide +kernel
theorem dX8_openLoop_57 : decode cX8_openLoop 57 = .ok (.putfield 43, 3) := by decide +kernel
theorem dX8_openLoop_60 : decode cX8_openLoop 60 = .ok (.return_, 1) := by decide +kernel
def xX8_openLoop   (M : j_M) : Option (j_M) := oli (M 28 8) fun v1 => (if v1 < (nI 3) then obi (xX8_readNumber (nI 1) (nI 9) M) fun v3 M2 => obv (xX8_expect (nI 4) M2) fun M4 => oli (M4 28 8) fun v5 => oli (M4 28 7) fun v6 => gd v5 3 (oml (mw M4 31 (ix v5) v6) fun M7 => oli (M7 28 8) fun v8 => gd v8 3 (oml (mw M7 32 (ix v8) v3) fun M9 => oli (M9 28 8) fun v10 => oml (mw M9 28 8 (v10 + (nI 1))) fun M11 => some M11)) else obv (xX8_refuse (nI 3) M) fun M12 => some M12)
set_option maxRecDepth 20000 in
set_option maxHeartbeats 2000000 in
theorem tX8_openLoop   (M : j_M) : J (ρ := j_M) yX8_openLoop cX8_openLoop 2 none 4 86 j_ev 0 [(0, .inr (13, 0, 28))] [] M (xX8_openLoop   M) := by
  unfold xX8_openLoop
  refine K_aload_n (q := 1) 0 dX8_openLoop_0 rfl rfl rfl ?_
  refine K_getI (q := 4) (ci := 3) 8 dX8_openLoop_1 fRX8_43 rfl rfl rfl (fun v1 => ?_)
  refine K_iconst (q := 5) (v := nI 3) dX8_openLoop_4 rfl rfl ?_
  refine K_icmp_lt (q := 8) (tgt := 14) dX8_openLoop_5 rfl ?_ rfl ?_
  · refine K_aload_n (q := 15) 0 dX8_openLoop_14 rfl rfl rfl ?_
    refine K_iconst (q := 16) (v := nI 1) dX8_openLoop_15 rfl rfl ?_
    refine K_bipush (q := 18) (v := nI 9) dX8_openLoop_16 rfl rfl ?_
    refine K_cvi (q := 21) [.inl ((nI 1)), .inl ((nI 9))] dX8_openLoop_18 cb_X8_readNumber cvRX8_73 rc_3 (show (13 : Nat) ≠ 0 by decide) rfl (Nat.le_of_ble_eq_true rfl) ⟨by decide, by decide⟩ (Nat.le_of_ble_eq_true rfl) rfl (tX8_readNumber (nI 1) (nI 9) M) rfl (fun v3 M2 => ?_)
    refine K_istore_n (q := 22) (ll' := [(1, .inl (v3)), (0, .inr (13, 0, 28))]) dX8_openLoop_21 rfl (by decide) rfl rfl ?_
    refine K_aload_n (q := 23) 1 dX8_openLoop_22 rfl rfl rfl ?_
    refine K_iconst (q := 24) (v := nI 4) dX8_openLoop_23 rfl rfl ?_
    refine K_cvv (q := 27) [.inl ((nI 4))] dX8_openLoop_24 cb_X8_expect cvRX8_77 rc_3 (show (13 : Nat) ≠ 0 by decide) rfl (Nat.le_of_ble_eq_true rfl) ⟨by decide, by decide⟩ (Nat.le_of_ble_eq_true rfl) rfl (tX8_expect (nI 4) M2) rfl (fun M4 => ?_)
    refine K_aload_n (q := 28) 1 dX8_openLoop_27 rfl rfl rfl ?_
    refine K_getR (q := 31) (ci := 3) (a2 := 31) 2 dX8_openLoop_28 fRX8_18 rfl rfl (by decide) rfl rfl ?_
    refine K_aload_n (q := 32) 1 dX8_openLoop_31 rfl rfl rfl ?_
    refine K_getI (q := 35) (ci := 3) 8 dX8_openLoop_32 fRX8_43 rfl rfl rfl (fun v5 => ?_)
    refine K_aload_n (q := 36) 1 dX8_openLoop_35 rfl rfl rfl ?_
    refine K_getI (q := 39) (ci := 3) 7 dX8_openLoop_36 fRX8_40 rfl rfl rfl (fun v6 => ?_)
    refine K_iast (q := 40) dX8_openLoop_39 rfl (fun M7 => ?_)
    refine K_aload_n (q := 41) 1 dX8_openLoop_40 rfl rfl rfl ?_
    refine K_getR (q := 44) (ci := 3) (a2 := 32) 3 dX8_openLoop_41 fRX8_21 rfl rfl (by decide) rfl rfl ?_
    refine K_aload_n (q := 45) 1 dX8_openLoop_44 rfl rfl rfl ?_
    refine K_getI (q := 48) (ci := 3) 8 dX8_openLoop_45 fRX8_43 rfl rfl rfl (fun v8 => ?_)
    refine K_iload_n (q := 49) 0 dX8_openLoop_48 rfl rfl rfl ?_
    refine K_iast (q := 50) dX8_openLoop_49 rfl (fun M9 => ?_)
    refine K_aload_n (q := 51) 1 dX8_openLoop_50 rfl rfl rfl ?_
    refine K_dup (q := 52) dX8_openLoop_51 rfl ?_
    refine K_getI (q := 55) (ci := 3) 8 dX8_openLoop_52 fRX8_43 rfl rfl rfl (fun v10 => ?_)
    refine K_iconst (q := 56) (v := nI 1) dX8_openLoop_55 rfl rfl ?_
    refine K_iadd (q := 57) dX8_openLoop_56 rfl ?_
    refine K_putI (q := 60) (ci := 3) 8 dX8_openLoop_57 fRX8_43 fp_3_8 rfl rfl (by decide) rfl (fun M11 => ?_)
    exact J_vret dX8_openLoop_60
  · refine K_aload_n (q := 9) 0 dX8_openLoop_8 rfl rfl rfl ?_
    refine K_iconst (q := 10) (v := nI 3) dX8_openLoop_9 rfl rfl ?_
    refine K_cvv (q := 13) [.inl ((nI 3))] dX8_openLoop_10 cb_X8_refuse cvRX8_70 rc_3 (show (13 : Nat) ≠ 0 by decide) rfl (Nat.le_of_ble_eq_true rfl) ⟨by decide, by decide⟩ (Nat.le_of_ble_eq_true rfl) rfl (tX8_refuse (nI 3) M) rfl (fun M12 => ?_)
    exact J_vret dX8_openLoop_13
theorem dX8_readProgram_0 : decode cX8_readProgram 0 = .ok (.aload_n 0, 1) := by decide +kernel
theorem dX8_readProgram_1 : decode cX8_readProgram 1 = .ok (.invokevirtual 46, 3) := by decide +kernel
theorem dX8_readProgram_4 : decode cX8_readProgram 4 = .ok (.iconst 1, 1) := by decide +kernel
theorem dX8_readProgram_5 : decode cX8_readProgram 5 = .ok (.istore_n 1, 1) := by decide +kernel
theorem dX8_readProgram_6 : decode cX8_readProgram 6 = .ok (.iconst 0, 1) := by decide +kernel
theorem dX8_readProgram_7 : decode cX8_readProgram 7 = .ok (.istore_n 2, 1) := by decide +kernel
theorem dX8_readProgram_8 : decode cX8_readProgram 8 = .ok (.iload_n 2, 1) := by decide +kernel
theorem dX8_readProgram_9 : decode cX8_readProgram 9 = .ok (.sipush 400, 3) := by decide +kernel
theorem dX8_readProgram_12 : decode cX8_readProgram 12 = .ok (.if_icmp .gt 120, 3) := by decide +kernel
theorem dX8_readProgram_15 : decode cX8_readProgram 15 = .ok (.iload_n 1, 1) := by decide +kernel
theorem dX8_readProgram_16 : decode cX8_readProgram 16 = .ok (.ifCond .eq 116, 3) := by decide +kernel
theorem dX8_readProgram_19 : decode cX8_readProgram 19 = .ok (.aload_n 0, 1) := by decide +kernel
theorem dX8_readProgram_20 : decode cX8_readProgram 20 = .ok (.invokevirtual 49, 3) := by decide +kernel
theorem dX8_readProgram_23 : decode cX8_readProgram 23 = .ok (.aload_n 0, 1) := by decide +kernel
theorem dX8_readProgram_24 : decode cX8_readProgram 24 = .ok (.getfield 52, 3) := by decide +kernel
theorem dX8_readProgram_27 : decode cX8_readProgram 27 = .ok (.ifCond .ne 8, 3) := by decide +kernel
theorem dX8_readProgram_30 : decode cX8_readProgram 30 = .ok (.iconst 0, 1) := by decide +kernel
theorem dX8_readProgram_31 : decode cX8_readProgram 31 = .ok (.istore_n 1, 1) := by decide +kernel
theorem dX8_readProgram_32 : decode cX8_readProgram 32 = .ok (.goto 77, 3) := by decide +kernel
theorem dX8_readProgram_35 : decode cX8_readProgram 35 = .ok (.aload_n 0, 1) := by decide +kernel
theorem dX8_readProgram_36 : decode cX8_readProgram 36 = .ok (.getfield 52, 3) := by decide +kernel
theorem dX8_readProgram_39 : decode cX8_readProgram 39 = .ok (.iconst 5, 1) := by decide +kernel
theorem dX8_readProgram_40 : decode cX8_readProgram 40 = .ok (.if_icmp .ne 17, 3) := by decide +kernel
theorem dX8_readProgram_43 : decode cX8_readProgram 43 = .ok (.aload_n 0, 1) := by decide +kernel
theorem dX8_readProgram_44 : decode cX8_readProgram 44 = .ok (.getfield 43, 3) := by decide +kernel
theorem dX8_readProgram_47 : decode cX8_readProgram 47 = .ok (.ifCond .le 10, 3) := by decide +kernel
theorem dX8_readProgram_50 : decode cX8_readProgram 50 = .ok (.aload_n 0, 1) := by decide +kernel
theorem dX8_readProgram_51 : decode cX8_readProgram 51 = .ok (.invokevirtual 55, 3) := by decide +kernel
theorem dX8_readProgram_54 : decode cX8_readProgram 54 = .ok (.goto 55, 3) := by decide +kernel
theorem dX8_readProgram_57 : decode cX8_readProgram 57 = .ok (.aload_n 0, 1) := by decide +kernel
theorem dX8_readProgram_58 : decode cX8_readProgram 58 = .ok (.getfield 52, 3) := by decide +kernel
theorem dX8_readProgram_61 : decode cX8_readProgram 61 = .ok (.iconst 1, 1) := by decide +kernel
theorem dX8_readProgram_62 : decode cX8_readProgram 62 = .ok (.if_icmp .ne 18, 3) := by decide +kernel
theorem dX8_readProgram_65 : decode cX8_readProgram 65 = .ok (.aload_n 0, 1) := by decide +kernel
theorem dX8_readProgram_66 : decode cX8_readProgram 66 = .ok (.getfield 58, 3) := by decide +kernel
theorem dX8_readProgram_69 : decode cX8_readProgram 69 = .ok (.iconst 5, 1) := by decide +kernel
theorem dX8_readProgram_70 : decode cX8_readProgram 70 = .ok (.if_icmp .ne 10, 3) := by decide +kernel
theorem dX8_readProgram_73 : decode cX8_readProgram 73 = .ok (.aload_n 0, 1) := by decide +kernel
theorem dX8_readProgram_74 : decode cX8_readProgram 74 = .ok (.invokevirtual 63, 3) := by decide +kernel
theorem dX8_readProgram_77 : decode cX8_readProgram 77 = .ok (.goto 32, 3) := by decide +kernel
theorem dX8_readProgram_80 : decode cX8_readProgram 80 = .ok (.aload_n 0, 1) := by decide +kernel
theorem dX8_readProgram_81 : decode cX8_readProgram 81 = .ok (.getfield 52, 3) := by decide +kernel
theorem dX8_readProgram_84 : decode cX8_readProgram 84 = .ok (.iconst 1, 1) := by decide +kernel
theorem dX8_readProgram_85 : decode cX8_readProgram 85 = .ok (.if_icmp .ne 19, 3) := by decide +kernel
theorem dX8_readProgram_88 : decode cX8_readProgram 88 = .ok (.aload_n 0, 1) := by decide +kernel
theorem dX8_readProgram_89 : decode cX8_readProgram 89 = .ok (.getfield 58, 3) := by decide +kernel
theorem dX8_readProgram_92 : decode cX8_readProgram 92 = .ok (.iconst 5, 1) := by decide +kernel
theorem dX8_readProgram_93 : decode cX8_readProgram 93 = .ok (.if_icmp .ge 11, 3) := by decide +kernel
theorem dX8_readProgram_96 : decode cX8_readProgram 96 = .ok (.aload_n 0, 1) := by decide +kernel
theorem dX8_readProgram_97 : decode cX8_readProgram 97 = .ok (.iconst 0, 1) := by decide +kernel
theorem dX8_readProgram_98 : decode cX8_readProgram 98 = .ok (.invokevirtual 66, 3) := by decide +kernel
theorem dX8_readProgram_101 : decode cX8_readProgram 101 = .ok (.goto 8, 3) := by decide +kernel
theorem dX8_readProgram_104 : decode cX8_readProgram 104 = .ok (.aload_n 0, 1) := by decide +kernel
theorem dX8_readProgram_105 : decode cX8_readProgram 105 = .ok (.iconst 1, 1) := by decide +kernel
theorem dX8_readProgram_106 : decode cX8_readProgram 106 = .ok (.invokevirtual 70, 3) := by decide +kernel
theorem dX8_readProgram_109 : decode cX8_readProgram 109 = .ok (.iload_n 1, 1) := by decide +kernel
theorem dX8_readProgram_110 : decode cX8_readProgram 110 = .ok (.ifCond .eq 14, 3) := by decide +kernel
theorem dX8_readProgram_113 : decode cX8_readProgram 113 = .ok (.aload_n 0, 1) := by decide +kernel
theorem dX8_readProgram_114 : decode cX8_readProgram 114 = .ok (.getfield 31, 3) := by decide +kernel
theorem dX8_readProgram_117 : decode cX8_readProgram 117 = .ok (.ifCond .ne 7, 3) := by decide +kernel
theorem dX8_readProgram_120 : decode cX8_readProgram 120 = .ok (.iconst 1, 1) := by decide +kernel
theorem dX8_readProgram_121 : decode cX8_readProgram 121 = .ok (.goto 4, 3) := by decide +kernel
theorem dX8_readProgram_124 : decode cX8_readProgram 124 = .ok (.iconst 0, 1) := by decide +kernel
theorem dX8_readProgram_125 : decode cX8_readProgram 125 = .ok (.istore_n 1, 1) := by decide +kernel
theorem dX8_readProgram_126 : decode cX8_readProgram 126 = .ok (.iinc 2 1, 3) := by decide +kernel
theorem dX8_readProgram_129 : decode cX8_readProgram 129 = .ok (.goto (-121), 3) := by decide +kernel
theorem dX8_readProgram_132 : decode cX8_readProgram 132 = .ok (.aload_n 0, 1) := by decide +kernel
theorem dX8_readProgram_133 : decode cX8_readProgram 133 = .ok (.getfield 31, 3) := by decide +kernel
theorem dX8_readProgram_136 : decode cX8_readProgram 136 = .ok (.ifCond .ne 18, 3) := by decide +kernel
theorem dX8_readProgram_139 : decode cX8_readProgram 139 = .ok (.aload_n 0, 1) := by decide +kernel
theorem dX8_readProgram_140 : decode cX8_readProgram 140 = .ok (.getfield 43, 3) := by decide +kernel
theorem dX8_readProgram_143 : decode cX8_readProgram 143 = .ok (.ifCond .le 11, 3) := by decide +kernel
theorem dX8_readProgram_146 : decode cX8_readProgram 146 = .ok (.aload_n 0, 1) := by decide +kernel
theorem dX8_readProgram_147 : decode cX8_readProgram 147 = .ok (.iconst 1, 1) := by decide +kernel
theorem dX8_readProgram_148 : decode cX8_readProgram 148 = .ok (.invokevirtual 70, 3) := by decide +kernel
theorem dX8_readProgram_151 : decode cX8_readProgram 151 = .ok (.goto 25, 3) := by decide +kernel
theorem dX8_readProgram_154 : decode cX8_readProgram 154 = .ok (.aload_n 0, 1) := by decide +kernel
theorem dX8_readProgram_155 : decode cX8_readProgram 155 = .ok (.getfield 31, 3) := by decide +kernel
theorem dX8_readProgram_158 : decode cX8_readProgram 158 = .ok (.ifCond .ne 18, 3) := by decide +kernel
theorem dX8_readProgram_161 : decode cX8_readProgram 161 = .ok (.aload_n 0, 1) := by decide +kernel
theorem dX8_readProgram_162 : decode cX8_readProgram 162 = .ok (.getfield 40, 3) := by decide +kernel
theorem dX8_readProgram_165 : decode cX8_readProgram 165 = .ok (.sipush 200, 3) := by decide +kernel
theorem dX8_readProgram_168 : decode cX8_readProgram 168 = .ok (.if_icmp .le 8, 3) := by decide +kernel
theorem dX8_readProgram_171 : decode cX8_readProgram 171 = .ok (.aload_n 0, 1) := by decide +kernel
theorem dX8_readProgram_172 : decode cX8_readProgram 172 = .ok (.iconst 4, 1) := by decide +kernel
theorem dX8_readProgram_173 : decode cX8_readProgram 173 = .ok (.invokevirtual 70, 3) := by decide +kernel
theorem dX8_readProgram_176 : decode cX8_readProgram 176 = .ok (.aload_n 0, 1) := by decide +kernel
theorem dX8_readProgram_177 : decode cX8_readProgram 177 = .ok (.getfield 31, 3) := by decide +kernel
theorem dX8_readProgram_180 : decode cX8_readProgram 180 = .ok (.ifCond .ne 10, 3) := by decide +kernel
theorem dX8_readProgram_183 : decode cX8_readProgram 183 = .ok (.aload_n 0, 1) := by decide +kernel
theorem dX8_readProgram_184 : decode cX8_readProgram 184 = .ok (.getfield 40, 3) := by decide +kernel
theorem dX8_readProgram_187 : decode cX8_readProgram 187 = .ok (.goto 4, 3) := by decide +kernel
theorem dX8_readProgram_190 : decode cX8_readProgram 190 = .ok (.iconst (-1), 1) := by decide +kernel
theorem dX8_readProgram_191 : decode cX8_readProgram 191 = .ok (.ireturn, 1) := by decide +kernel
def xX8_readProgram_176    (M : j_M) : Option (Int32 × j_M) := oli (M 28 5) fun v1 => (if v1 = (0 : Int32) then oli (M 28 7) fun v2 => some (v2, M) else some ((-1 : Int32), M))
set_option maxRecDepth 20000 in
set_option maxHeartbeats 2000000 in
theorem tX8_readProgram_176     (M : j_M) : J (ρ := Int32 × j_M) yX8_readProgram cX8_readProgram 3 (some .int) 5 110 j_ei 176 [(0, .inr (13, 0, 28))] [] M (xX8_readProgram_176   M) := by
  unfold xX8_readProgram_176
  refine K_aload_n (q := 177) 0 dX8_readProgram_176 rfl rfl rfl ?_
  refine K_getI (q := 180) (ci := 3) 5 dX8_readProgram_177 fRX8_31 rfl rfl rfl (fun v1 => ?_)
  refine K_if_ne (q := 183) (tgt := 190) dX8_readProgram_180 rfl ?_ rfl ?_
  · refine K_iconst (q := 191) (v := -1) dX8_readProgram_190 rfl rfl ?_
    exact J_iret dX8_readProgram_191
  · refine K_aload_n (q := 184) 0 dX8_readProgram_183 rfl rfl rfl ?_
    refine K_getI (q := 187) (ci := 3) 7 dX8_readProgram_184 fRX8_40 rfl rfl rfl (fun v2 => ?_)
    refine J_goto (tgt := 191) dX8_readProgram_187 rfl ?_
    exact J_iret dX8_readProgram_191
def xX8_readProgram_154    (M : j_M) : Option (Int32 × j_M) := oli (M 28 5) fun v1 => (if v1 = (0 : Int32) then oli (M 28 7) fun v2 => (if v2 ≤ (nI 200) then xX8_readProgram_176  M else obv (xX8_refuse (nI 4) M) fun M3 => xX8_readProgram_176  M3) else xX8_readProgram_176  M)
set_option maxRecDepth 20000 in
set_option maxHeartbeats 2000000 in
theorem tX8_readProgram_154     (M : j_M) : J (ρ := Int32 × j_M) yX8_readProgram cX8_readProgram 3 (some .int) 5 110 j_ei 154 [(0, .inr (13, 0, 28))] [] M (xX8_readProgram_154   M) := by
  unfold xX8_readProgram_154
  refine K_aload_n (q := 155) 0 dX8_readProgram_154 rfl rfl rfl ?_
  refine K_getI (q := 158) (ci := 3) 5 dX8_readProgram_155 fRX8_31 rfl rfl rfl (fun v1 => ?_)
  refine K_if_ne (q := 161) (tgt := 176) dX8_readProgram_158 rfl ?_ rfl ?_
  · exact J_sub [0] (tX8_readProgram_176  M) rfl
  · refine K_aload_n (q := 162) 0 dX8_readProgram_161 rfl rfl rfl ?_
    refine K_getI (q := 165) (ci := 3) 7 dX8_readProgram_162 fRX8_40 rfl rfl rfl (fun v2 => ?_)
    refine K_sipush (q := 168) (v := nI 200) dX8_readProgram_165 rfl rfl ?_
    refine K_icmp_le (q := 171) (tgt := 176) dX8_readProgram_168 rfl ?_ rfl ?_
    · exact J_sub [0] (tX8_readProgram_176  M) rfl
    · refine K_aload_n (q := 172) 0 dX8_readProgram_171 rfl rfl rfl ?_
      refine K_iconst (q := 173) (v := nI 4) dX8_readProgram_172 rfl rfl ?_
      refine K_cvv (q := 176) [.inl ((nI 4))] dX8_readProgram_173 cb_X8_refuse cvRX8_70 rc_3 (show (13 : Nat) ≠ 0 by decide) rfl (Nat.le_of_ble_eq_true rfl) ⟨by decide, by decide⟩ (Nat.le_of_ble_eq_true rfl) rfl (tX8_refuse (nI 4) M) rfl (fun M3 => ?_)
      exact J_sub [0] (tX8_readProgram_176  M3) rfl
def xX8_readProgram_132    (M : j_M) : Option (Int32 × j_M) := oli (M 28 5) fun v1 => (if v1 = (0 : Int32) then oli (M 28 8) fun v2 => (if v2 ≤ (0 : Int32) then xX8_readProgram_154  M else obv (xX8_refuse (nI 1) M) fun M3 => xX8_readProgram_176  M3) else xX8_readProgram_154  M)
set_option maxRecDepth 20000 in
set_option maxHeartbeats 2000000 in
theorem tX8_readProgram_132     (M : j_M) : J (ρ := Int32 × j_M) yX8_readProgram cX8_readProgram 3 (some .int) 5 110 j_ei 132 [(0, .inr (13, 0, 28))] [] M (xX8_readProgram_132   M) := by
  unfold xX8_readProgram_132
  refine K_aload_n (q := 133) 0 dX8_readProgram_132 rfl rfl rfl ?_
  refine K_getI (q := 136) (ci := 3) 5 dX8_readProgram_133 fRX8_31 rfl rfl rfl (fun v1 => ?_)
  refine K_if_ne (q := 139) (tgt := 154) dX8_readProgram_136 rfl ?_ rfl ?_
  · exact J_sub [0] (tX8_readProgram_154  M) rfl
  · refine K_aload_n (q := 140) 0 dX8_readProgram_139 rfl rfl rfl ?_
    refine K_getI (q := 143) (ci := 3) 8 dX8_readProgram_140 fRX8_43 rfl rfl rfl (fun v2 => ?_)
    refine K_if_le (q := 146) (tgt := 154) dX8_readProgram_143 rfl ?_ rfl ?_
    · exact J_sub [0] (tX8_readProgram_154  M) rfl
    · refine K_aload_n (q := 147) 0 dX8_readProgram_146 rfl rfl rfl ?_
      refine K_iconst (q := 148) (v := nI 1) dX8_readProgram_147 rfl rfl ?_
      refine K_cvv (q := 151) [.inl ((nI 1))] dX8_readProgram_148 cb_X8_refuse cvRX8_70 rc_3 (show (13 : Nat) ≠ 0 by decide) rfl (Nat.le_of_ble_eq_true rfl) ⟨by decide, by decide⟩ (Nat.le_of_ble_eq_true rfl) rfl (tX8_refuse (nI 1) M) rfl (fun M3 => ?_)
      refine J_goto (tgt := 176) dX8_readProgram_151 rfl ?_
      exact J_sub [0] (tX8_readProgram_176  M3) rfl
def xX8_readProgram_125 (k8 : Int32 → Int32 → j_M → Option (Int32 × j_M))  (l2 : Int32) (s0 : Int32) (M : j_M) : Option (Int32 × j_M) := k8 s0 (l2 + (nI 1)) M
set_option maxRecDepth 20000 in
set_option maxHeartbeats 2000000 in
theorem tX8_readProgram_125 (k8 : Int32 → Int32 → j_M → Option (Int32 × j_M))  (hk8 : ∀ (l1 : Int32) (l2 : Int32) (M : j_M), J (ρ := Int32 × j_M) yX8_readProgram cX8_readProgram 3 (some .int) 5 110 j_ei 8 [(0, .inr (13, 0, 28)), (1, .inl (l1)), (2, .inl (l2))] [] M (k8 l1 l2 M)) (l2 : Int32) (s0 : Int32) (M : j_M) : J (ρ := Int32 × j_M) yX8_readProgram cX8_readProgram 3 (some .int) 5 110 j_ei 125 [(0, .inr (13, 0, 28)), (2, .inl (l2))] [.inl (s0)] M (xX8_readProgram_125 k8 l2 s0 M) := by
  unfold xX8_readProgram_125
  refine K_istore_n (q := 126) (ll' := [(1, .inl (s0)), (0, .inr (13, 0, 28)), (2, .inl (l2))]) dX8_readProgram_125 rfl (by decide) rfl rfl ?_
  refine K_iinc (q := 129) (v := l2 + (nI 1)) (ll' := [(2, .inl (l2 + (nI 1))), (1, .inl (s0)), (0, .inr (13, 0, 28))]) 2 dX8_readProgram_126 rfl rfl (by decide) rfl rfl ?_
  refine J_goto (tgt := 8) dX8_readProgram_129 rfl ?_
  exact J_sub [2, 1, 0] (hk8 s0 (l2 + (nI 1)) M) rfl
def xX8_readProgram_124 (k8 : Int32 → Int32 → j_M → Option (Int32 × j_M))  (l2 : Int32) (M : j_M) : Option (Int32 × j_M) := xX8_readProgram_125 k8 l2 (nI 0) M
set_option maxRecDepth 20000 in
set_option maxHeartbeats 2000000 in
theorem tX8_readProgram_124 (k8 : Int32 → Int32 → j_M → Option (Int32 × j_M))  (hk8 : ∀ (l1 : Int32) (l2 : Int32) (M : j_M), J (ρ := Int32 × j_M) yX8_readProgram cX8_readProgram 3 (some .int) 5 110 j_ei 8 [(0, .inr (13, 0, 28)), (1, .inl (l1)), (2, .inl (l2))] [] M (k8 l1 l2 M)) (l2 : Int32) (M : j_M) : J (ρ := Int32 × j_M) yX8_readProgram cX8_readProgram 3 (some .int) 5 110 j_ei 124 [(0, .inr (13, 0, 28)), (2, .inl (l2))] [] M (xX8_readProgram_124 k8 l2 M) := by
  unfold xX8_readProgram_124
  refine K_iconst (q := 125) (v := nI 0) dX8_readProgram_124 rfl rfl ?_
  exact J_sub [0, 1] (tX8_readProgram_125 k8 hk8 l2 (nI 0) M) rfl
def xX8_readProgram_109 (k8 : Int32 → Int32 → j_M → Option (Int32 × j_M))  (l1 : Int32) (l2 : Int32) (M : j_M) : Option (Int32 × j_M) := (if l1 = (0 : Int32) then xX8_readProgram_124 k8 l2 M else oli (M 28 5) fun v1 => (if v1 = (0 : Int32) then xX8_readProgram_125 k8 l2 (nI 1) M else xX8_readProgram_124 k8 l2 M))
set_option maxRecDepth 20000 in
set_option maxHeartbeats 2000000 in
theorem tX8_readProgram_109 (k8 : Int32 → Int32 → j_M → Option (Int32 × j_M))  (hk8 : ∀ (l1 : Int32) (l2 : Int32) (M : j_M), J (ρ := Int32 × j_M) yX8_readProgram cX8_readProgram 3 (some .int) 5 110 j_ei 8 [(0, .inr (13, 0, 28)), (1, .inl (l1)), (2, .inl (l2))] [] M (k8 l1 l2 M)) (l1 : Int32) (l2 : Int32) (M : j_M) : J (ρ := Int32 × j_M) yX8_readProgram cX8_readProgram 3 (some .int) 5 110 j_ei 109 [(0, .inr (13, 0, 28)), (1, .inl (l1)), (2, .inl (l2))] [] M (xX8_readProgram_109 k8 l1 l2 M) := by
  unfold xX8_readProgram_109
  refine K_iload_n (q := 110) 1 dX8_readProgram_109 rfl rfl rfl ?_
  refine K_if_eq (q := 113) (tgt := 124) dX8_readProgram_110 rfl ?_ rfl ?_
  · exact J_sub [0, 2] (tX8_readProgram_124 k8 hk8 l2 M) rfl
  · refine K_aload_n (q := 114) 0 dX8_readProgram_113 rfl rfl rfl ?_
    refine K_getI (q := 117) (ci := 3) 5 dX8_readProgram_114 fRX8_31 rfl rfl rfl (fun v1 => ?_)
    refine K_if_ne (q := 120) (tgt := 124) dX8_readProgram_117 rfl ?_ rfl ?_
    · exact J_sub [0, 2] (tX8_readProgram_124 k8 hk8 l2 M) rfl
    · refine K_iconst (q := 121) (v := nI 1) dX8_readProgram_120 rfl rfl ?_
      refine J_goto (tgt := 125) dX8_readProgram_121 rfl ?_
      exact J_sub [0, 2] (tX8_readProgram_125 k8 hk8 l2 (nI 1) M) rfl
def xX8_readProgram_104 (k8 : Int32 → Int32 → j_M → Option (Int32 × j_M))  (l1 : Int32) (l2 : Int32) (M : j_M) : Option (Int32 × j_M) := obv (xX8_refuse (nI 1) M) fun M1 => xX8_readProgram_109 k8 l1 l2 M1
set_option maxRecDepth 20000 in
set_option maxHeartbeats 2000000 in
theorem tX8_readProgram_104 (k8 : Int32 → Int32 → j_M → Option (Int32 × j_M))  (hk8 : ∀ (l1 : Int32) (l2 : Int32) (M : j_M), J (ρ := Int32 × j_M) yX8_readProgram cX8_readProgram 3 (some .int) 5 110 j_ei 8 [(0, .inr (13, 0, 28)), (1, .inl (l1)), (2, .inl (l2))] [] M (k8 l1 l2 M)) (l1 : Int32) (l2 : Int32) (M : j_M) : J (ρ := Int32 × j_M) yX8_readProgram cX8_readProgram 3 (some .int) 5 110 j_ei 104 [(0, .inr (13, 0, 28)), (1, .inl (l1)), (2, .inl (l2))] [] M (xX8_readProgram_104 k8 l1 l2 M) := by
  unfold xX8_readProgram_104
  refine K_aload_n (q := 105) 0 dX8_readProgram_104 rfl rfl rfl ?_
  refine K_iconst (q := 106) (v := nI 1) dX8_readProgram_105 rfl rfl ?_
  refine K_cvv (q := 109) [.inl ((nI 1))] dX8_readProgram_106 cb_X8_refuse cvRX8_70 rc_3 (show (13 : Nat) ≠ 0 by decide) rfl (Nat.le_of_ble_eq_true rfl) ⟨by decide, by decide⟩ (Nat.le_of_ble_eq_true rfl) rfl (tX8_refuse (nI 1) M) rfl (fun M1 => ?_)
  exact J_sub [0, 1, 2] (tX8_readProgram_109 k8 hk8 l1 l2 M1) rfl
def xX8_readProgram_80 (k8 : Int32 → Int32 → j_M → Option (Int32 × j_M))  (l1 : Int32) (l2 : Int32) (M : j_M) : Option (Int32 × j_M) := oli (M 28 10) fun v1 => (if v1 = (nI 1) then oli (M 28 11) fun v2 => (if (nI 5) ≤ v2 then xX8_readProgram_104 k8 l1 l2 M else obv (xX8_readAct (nI 0) M) fun M3 => xX8_readProgram_109 k8 l1 l2 M3) else xX8_readProgram_104 k8 l1 l2 M)
set_option maxRecDepth 20000 in
set_option maxHeartbeats 2000000 in
theorem tX8_readProgram_80 (k8 : Int32 → Int32 → j_M → Option (Int32 × j_M))  (hk8 : ∀ (l1 : Int32) (l2 : Int32) (M : j_M), J (ρ := Int32 × j_M) yX8_readProgram cX8_readProgram 3 (some .int) 5 110 j_ei 8 [(0, .inr (13, 0, 28)), (1, .inl (l1)), (2, .inl (l2))] [] M (k8 l1 l2 M)) (l1 : Int32) (l2 : Int32) (M : j_M) : J (ρ := Int32 × j_M) yX8_readProgram cX8_readProgram 3 (some .int) 5 110 j_ei 80 [(0, .inr (13, 0, 28)), (1, .inl (l1)), (2, .inl (l2))] [] M (xX8_readProgram_80 k8 l1 l2 M) := by
  unfold xX8_readProgram_80
  refine K_aload_n (q := 81) 0 dX8_readProgram_80 rfl rfl rfl ?_
  refine K_getI (q := 84) (ci := 3) 10 dX8_readProgram_81 fRX8_52 rfl rfl rfl (fun v1 => ?_)
  refine K_iconst (q := 85) (v := nI 1) dX8_readProgram_84 rfl rfl ?_
  refine K_icmp_ne (q := 88) (tgt := 104) dX8_readProgram_85 rfl ?_ rfl ?_
  · exact J_sub [0, 1, 2] (tX8_readProgram_104 k8 hk8 l1 l2 M) rfl
  · refine K_aload_n (q := 89) 0 dX8_readProgram_88 rfl rfl rfl ?_
    refine K_getI (q := 92) (ci := 3) 11 dX8_readProgram_89 fRX8_58 rfl rfl rfl (fun v2 => ?_)
    refine K_iconst (q := 93) (v := nI 5) dX8_readProgram_92 rfl rfl ?_
    refine K_icmp_ge (q := 96) (tgt := 104) dX8_readProgram_93 rfl ?_ rfl ?_
    · exact J_sub [0, 1, 2] (tX8_readProgram_104 k8 hk8 l1 l2 M) rfl
    · refine K_aload_n (q := 97) 0 dX8_readProgram_96 rfl rfl rfl ?_
      refine K_iconst (q := 98) (v := nI 0) dX8_readProgram_97 rfl rfl ?_
      refine K_cvv (q := 101) [.inl ((nI 0))] dX8_readProgram_98 cb_X8_readAct cvRX8_66 rc_3 (show (13 : Nat) ≠ 0 by decide) rfl (Nat.le_of_ble_eq_true rfl) ⟨by decide, by decide⟩ (Nat.le_of_ble_eq_true rfl) rfl (tX8_readAct (nI 0) M) rfl (fun M3 => ?_)
      refine J_goto (tgt := 109) dX8_readProgram_101 rfl ?_
      exact J_sub [0, 1, 2] (tX8_readProgram_109 k8 hk8 l1 l2 M3) rfl
def xX8_readProgram_57 (k8 : Int32 → Int32 → j_M → Option (Int32 × j_M))  (l1 : Int32) (l2 : Int32) (M : j_M) : Option (Int32 × j_M) := oli (M 28 10) fun v1 => (if v1 = (nI 1) then oli (M 28 11) fun v2 => (if v2 = (nI 5) then obv (xX8_openLoop M) fun M3 => xX8_readProgram_109 k8 l1 l2 M3 else xX8_readProgram_80 k8 l1 l2 M) else xX8_readProgram_80 k8 l1 l2 M)
set_option maxRecDepth 20000 in
set_option maxHeartbeats 2000000 in
theorem tX8_readProgram_57 (k8 : Int32 → Int32 → j_M → Option (Int32 × j_M))  (hk8 : ∀ (l1 : Int32) (l2 : Int32) (M : j_M), J (ρ := Int32 × j_M) yX8_readProgram cX8_readProgram 3 (some .int) 5 110 j_ei 8 [(0, .inr (13, 0, 28)), (1, .inl (l1)), (2, .inl (l2))] [] M (k8 l1 l2 M)) (l1 : Int32) (l2 : Int32) (M : j_M) : J (ρ := Int32 × j_M) yX8_readProgram cX8_readProgram 3 (some .int) 5 110 j_ei 57 [(0, .inr (13, 0, 28)), (1, .inl (l1)), (2, .inl (l2))] [] M (xX8_readProgram_57 k8 l1 l2 M) := by
  unfold xX8_readProgram_57
  refine K_aload_n (q := 58) 0 dX8_readProgram_57 rfl rfl rfl ?_
  refine K_getI (q := 61) (ci := 3) 10 dX8_readProgram_58 fRX8_52 rfl rfl rfl (fun v1 => ?_)
  refine K_iconst (q := 62) (v := nI 1) dX8_readProgram_61 rfl rfl ?_
  refine K_icmp_ne (q := 65) (tgt := 80) dX8_readProgram_62 rfl ?_ rfl ?_
  · exact J_sub [0, 1, 2] (tX8_readProgram_80 k8 hk8 l1 l2 M) rfl
  · refine K_aload_n (q := 66) 0 dX8_readProgram_65 rfl rfl rfl ?_
    refine K_getI (q := 69) (ci := 3) 11 dX8_readProgram_66 fRX8_58 rfl rfl rfl (fun v2 => ?_)
    refine K_iconst (q := 70) (v := nI 5) dX8_readProgram_69 rfl rfl ?_
    refine K_icmp_ne (q := 73) (tgt := 80) dX8_readProgram_70 rfl ?_ rfl ?_
    · exact J_sub [0, 1, 2] (tX8_readProgram_80 k8 hk8 l1 l2 M) rfl
    · refine K_aload_n (q := 74) 0 dX8_readProgram_73 rfl rfl rfl ?_
      refine K_cvv (q := 77) [] dX8_readProgram_74 cb_X8_openLoop cvRX8_63 rc_3 (show (13 : Nat) ≠ 0 by decide) rfl (Nat.le_of_ble_eq_true rfl) ⟨by decide, by decide⟩ (Nat.le_of_ble_eq_true rfl) rfl (tX8_openLoop M) rfl (fun M3 => ?_)
      refine J_goto (tgt := 109) dX8_readProgram_77 rfl ?_
      exact J_sub [0, 1, 2] (tX8_readProgram_109 k8 hk8 l1 l2 M3) rfl
def xX8_readProgram_8   : Nat → Int32 → Int32 → j_M → Option (Int32 × j_M)
  | 0, _, _, _ => none
  | n + 1, l1, l2, M => (if (nI 400) < l2 then xX8_readProgram_132  M else (if l1 = (0 : Int32) then xX8_readProgram_132  M else obv (xX8_readToken M) fun M1 => oli (M1 28 10) fun v2 => (if v2 = (0 : Int32) then xX8_readProgram_109 (xX8_readProgram_8  n) (nI 0) l2 M1 else oli (M1 28 10) fun v3 => (if v3 = (nI 5) then oli (M1 28 8) fun v4 => (if v4 ≤ (0 : Int32) then xX8_readProgram_57 (xX8_readProgram_8  n) l1 l2 M1 else obv (xX8_closeLoop M1) fun M5 => xX8_readProgram_109 (xX8_readProgram_8  n) l1 l2 M5) else xX8_readProgram_57 (xX8_readProgram_8  n) l1 l2 M1))))
set_option maxRecDepth 20000 in
set_option maxHeartbeats 2000000 in
theorem tX8_readProgram_8    : ∀ (n : Nat) (l1 : Int32) (l2 : Int32) (M : j_M), J (ρ := Int32 × j_M) yX8_readProgram cX8_readProgram 3 (some .int) 5 110 j_ei 8 [(0, .inr (13, 0, 28)), (1, .inl (l1)), (2, .inl (l2))] [] M (xX8_readProgram_8  n l1 l2 M) := by
  intro n
  induction n with
  | zero => intros; exact J_none
  | succ n ih =>
    intro l1 l2 M
    rw [xX8_readProgram_8.eq_2]
    refine K_iload_n (q := 9) 2 dX8_readProgram_8 rfl rfl rfl ?_
    refine K_sipush (q := 12) (v := nI 400) dX8_readProgram_9 rfl rfl ?_
    refine K_icmp_gt (q := 15) (tgt := 132) dX8_readProgram_12 rfl ?_ rfl ?_
    · exact J_sub [0] (tX8_readProgram_132  M) rfl
    · refine K_iload_n (q := 16) 1 dX8_readProgram_15 rfl rfl rfl ?_
      refine K_if_eq (q := 19) (tgt := 132) dX8_readProgram_16 rfl ?_ rfl ?_
      · exact J_sub [0] (tX8_readProgram_132  M) rfl
      · refine K_aload_n (q := 20) 0 dX8_readProgram_19 rfl rfl rfl ?_
        refine K_cvv (q := 23) [] dX8_readProgram_20 cb_X8_readToken cvRX8_49 rc_3 (show (13 : Nat) ≠ 0 by decide) rfl (Nat.le_of_ble_eq_true rfl) ⟨by decide, by decide⟩ (Nat.le_of_ble_eq_true rfl) rfl (tX8_readToken M) rfl (fun M1 => ?_)
        refine K_aload_n (q := 24) 0 dX8_readProgram_23 rfl rfl rfl ?_
        refine K_getI (q := 27) (ci := 3) 10 dX8_readProgram_24 fRX8_52 rfl rfl rfl (fun v2 => ?_)
        refine K_if_ne (q := 30) (tgt := 35) dX8_readProgram_27 rfl ?_ rfl ?_
        · refine K_aload_n (q := 36) 0 dX8_readProgram_35 rfl rfl rfl ?_
          refine K_getI (q := 39) (ci := 3) 10 dX8_readProgram_36 fRX8_52 rfl rfl rfl (fun v3 => ?_)
          refine K_iconst (q := 40) (v := nI 5) dX8_readProgram_39 rfl rfl ?_
          refine K_icmp_ne (q := 43) (tgt := 57) dX8_readProgram_40 rfl ?_ rfl ?_
          · exact J_sub [0, 1, 2] (tX8_readProgram_57 (xX8_readProgram_8  n) ih l1 l2 M1) rfl
          · refine K_aload_n (q := 44) 0 dX8_readProgram_43 rfl rfl rfl ?_
            refine K_getI (q := 47) (ci := 3) 8 dX8_readProgram_44 fRX8_43 rfl rfl rfl (fun v4 => ?_)
            refine K_if_le (q := 50) (tgt := 57) dX8_readProgram_47 rfl ?_ rfl ?_
            · exact J_sub [0, 1, 2] (tX8_readProgram_57 (xX8_readProgram_8  n) ih l1 l2 M1) rfl
            · refine K_aload_n (q := 51) 0 dX8_readProgram_50 rfl rfl rfl ?_
              refine K_cvv (q := 54) [] dX8_readProgram_51 cb_X8_closeLoop cvRX8_55 rc_3 (show (13 : Nat) ≠ 0 by decide) rfl (Nat.le_of_ble_eq_true rfl) ⟨by decide, by decide⟩ (Nat.le_of_ble_eq_true rfl) rfl (tX8_closeLoop M1) rfl (fun M5 => ?_)
              refine J_goto (tgt := 109) dX8_readProgram_54 rfl ?_
              exact J_sub [0, 1, 2] (tX8_readProgram_109 (xX8_readProgram_8  n) ih l1 l2 M5) rfl
        · refine K_iconst (q := 31) (v := nI 0) dX8_readProgram_30 rfl rfl ?_
          refine K_istore_n (q := 32) (ll' := [(1, .inl ((nI 0))), (0, .inr (13, 0, 28)), (2, .inl (l2))]) dX8_readProgram_31 rfl (by decide) rfl rfl ?_
          refine J_goto (tgt := 109) dX8_readProgram_32 rfl ?_
          exact J_sub [1, 0, 2] (tX8_readProgram_109 (xX8_readProgram_8  n) ih (nI 0) l2 M1) rfl
def xX8_readProgram   (M : j_M) : Option (Int32 × j_M) := obv (xX8_startReading M) fun M1 => xX8_readProgram_8 fu (nI 1) (nI 0) M1
set_option maxRecDepth 20000 in
set_option maxHeartbeats 2000000 in
theorem tX8_readProgram   (M : j_M) : J (ρ := Int32 × j_M) yX8_readProgram cX8_readProgram 3 (some .int) 5 110 j_ei 0 [(0, .inr (13, 0, 28))] [] M (xX8_readProgram   M) := by
  unfold xX8_readProgram
  refine K_aload_n (q := 1) 0 dX8_readProgram_0 rfl rfl rfl ?_
  refine K_cvv (q := 4) [] dX8_readProgram_1 cb_X8_startReading cvRX8_46 rc_3 (show (13 : Nat) ≠ 0 by decide) rfl (Nat.le_of_ble_eq_true rfl) ⟨by decide, by decide⟩ (Nat.le_of_ble_eq_true rfl) rfl (tX8_startReading M) rfl (fun M1 => ?_)
  refine K_iconst (q := 5) (v := nI 1) dX8_readProgram_4 rfl rfl ?_
  refine K_istore_n (q := 6) (ll' := [(1, .inl ((nI 1))), (0, .inr (13, 0, 28))]) dX8_readProgram_5 rfl (by decide) rfl rfl ?_
  refine K_iconst (q := 7) (v := nI 0) dX8_readProgram_6 rfl rfl ?_
  refine K_istore_n (q := 8) (ll' := [(2, .inl ((nI 0))), (1, .inl ((nI 1))), (0, .inr (13, 0, 28))]) dX8_readProgram_7 rfl (by decide) rfl rfl ?_
  exact J_sub [2, 1, 0] (tX8_readProgram_8 fu (nI 1) (nI 0) M1) rfl
