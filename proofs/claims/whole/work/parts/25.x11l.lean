theorem cb_X6_become : j_CB yX6_become cX6_become 2 none 1 := ⟨by decide +kernel, j_in 1134 (by decide +kernel) (by decide +kernel), j_in 108 (by decide +kernel) (by decide +kernel), by decide +kernel, by decide +kernel, by decide +kernel⟩
theorem cvRX11_341 : j_CV RX11 341 yX6_become := ⟨Or.inl (j_in 1131 (by decide +kernel) (by decide +kernel)), j_in 1132 (by decide +kernel) (by decide +kernel), j_in 1133 (by decide +kernel) (by decide +kernel)⟩
theorem cvRX11_354 : j_CV RX11 354 yX1_become := ⟨Or.inl (j_in 952 (by decide +kernel) (by decide +kernel)), j_in 953 (by decide +kernel) (by decide +kernel), j_in 954 (by decide +kernel) (by decide +kernel)⟩
theorem cb_X11_prepareThought : j_CB yX11_prepareThought cX11_prepareThought 1 none 0 := ⟨by decide +kernel, j_in 947 (by decide +kernel) (by decide +kernel), j_in 107 (by decide +kernel) (by decide +kernel), by decide +kernel, by decide +kernel, by decide +kernel⟩
theorem cvRX11_254 : j_CV RX11 254 yX11_prepareThought := ⟨Or.inl (j_in 944 (by decide +kernel) (by decide +kernel)), j_in 946 (by decide +kernel) (by decide +kernel), j_in 15 (by decide +kernel) (by decide +kernel)⟩
theorem cb_X10_knows : j_CB yX10_knows cX10_knows 2 (some .boolean) 1 := ⟨by decide +kernel, j_in 1022 (by decide +kernel) (by decide +kernel), j_in 126 (by decide +kernel) (by decide +kernel), by decide +kernel, by decide +kernel, by decide +kernel⟩
theorem cvRX11_267 : j_CV RX11 267 yX10_knows := ⟨Or.inl (j_in 1019 (by decide +kernel) (by decide +kernel)), j_in 1020 (by decide +kernel) (by decide +kernel), j_in 1021 (by decide +kernel) (by decide +kernel)⟩
theorem cb_X10_explore : j_CB yX10_explore cX10_explore 3 none 1 := ⟨by decide +kernel, j_in 1033 (by decide +kernel) (by decide +kernel), j_in 126 (by decide +kernel) (by decide +kernel), by decide +kernel, by decide +kernel, by decide +kernel⟩
theorem cvRX11_271 : j_CV RX11 271 yX10_explore := ⟨Or.inl (j_in 1030 (by decide +kernel) (by decide +kernel)), j_in 1031 (by decide +kernel) (by decide +kernel), j_in 1032 (by decide +kernel) (by decide +kernel)⟩
theorem fRX11_275 : j_F RX11 275 5 0 := ⟨RX10, TX10, 17, rfl, by decide, ws_in5, j_in 967 (by decide +kernel) (by decide +kernel)⟩
theorem dX11_image_0 : decode cX11_image 0 = .ok (.iload_n 1, 1) := by decide +kernel
theorem dX11_image_1 : decode cX11_image 1 = .ok (.ifCond .eq 34, 3) := by decide +kernel
theorem dX11_image_4 : decode cX11_image 4 = .ok (.aload_n 0, 1) := by decide +kernel
theorem dX11_image_5 : decode cX11_image 5 = .ok (.getfield 338, 3) := by decide +kernel
theorem dX11_image_8 : decode cX11_image 8 = .ok (.ifnonnull 14, 3) := by decide +kernel
theorem dX11_image_11 : decode cX11_image 11 = .ok (.aload_n 0, 1) := by decide +kernel
theorem dX11_image_22 : decode cX11_image 22 = .ok (.aload_n 0, 1) := by decide +kernel
theorem dX11_image_23 : decode cX11_image 23 = .ok (.getfield 338, 3) := by decide +kernel
theorem dX11_image_26 : decode cX11_image 26 = .ok (.aload_n 0, 1) := by decide +kernel
theorem dX11_image_27 : decode cX11_image 27 = .ok (.getfield 10, 3) := by decide +kernel
theorem dX11_image_30 : decode cX11_image 30 = .ok (.invokevirtual 341, 3) := by decide +kernel
theorem dX11_image_33 : decode cX11_image 33 = .ok (.iconst 1, 1) := by decide +kernel
theorem dX11_image_34 : decode cX11_image 34 = .ok (.ireturn, 1) := by decide +kernel
theorem dX11_image_35 : decode cX11_image 35 = .ok (.aload_n 0, 1) := by decide +kernel
theorem dX11_image_36 : decode cX11_image 36 = .ok (.getfield 338, 3) := by decide +kernel
theorem dX11_image_39 : decode cX11_image 39 = .ok (.ifnonnull 5, 3) := by decide +kernel
theorem dX11_image_42 : decode cX11_image 42 = .ok (.iconst 0, 1) := by decide +kernel
theorem dX11_image_43 : decode cX11_image 43 = .ok (.ireturn, 1) := by decide +kernel
theorem dX11_image_44 : decode cX11_image 44 = .ok (.aload_n 0, 1) := by decide +kernel
theorem dX11_image_45 : decode cX11_image 45 = .ok (.getfield 10, 3) := by decide +kernel
theorem dX11_image_48 : decode cX11_image 48 = .ok (.aload_n 0, 1) := by decide +kernel
theorem dX11_image_49 : decode cX11_image 49 = .ok (.getfield 338, 3) := by decide +kernel
theorem dX11_image_52 : decode cX11_image 52 = .ok (.invokevirtual 341, 3) := by decide +kernel
theorem dX11_image_55 : decode cX11_image 55 = .ok (.iconst 1, 1) := by decide +kernel
theorem dX11_image_56 : decode cX11_image 56 = .ok (.ireturn, 1) := by decide +kernel
def xX11_image_22    (M : j_M) : Option (Int32 × j_M) := gn (M 0 2) (obv (xX6_become 40 1 M) fun M1 => some ((nI 1), M1))
set_option maxRecDepth 20000 in
set_option maxHeartbeats 2000000 in
theorem tX11_image_22     (M : j_M) : J (ρ := Int32 × j_M) yX11_image cX11_image 2 (some .boolean) 5 160 j_ei 22 [(0, .inr (16, 0, 0))] [] M (xX11_image_22   M) := by
  unfold xX11_image_22
  refine K_aload_n (q := 23) 0 dX11_image_22 rfl rfl rfl ?_
  refine K_getNN (q := 26) (ci := 6) (a2 := 40) 2 dX11_image_23 fRX11_338 rfl rfl (by decide) rfl rfl ?_
  refine K_aload_n (q := 27) 0 dX11_image_26 rfl rfl rfl ?_
  refine K_getR (q := 30) (ci := 6) (a2 := 1) 0 dX11_image_27 fRX11_10 rfl rfl (by decide) rfl rfl ?_
  refine K_cvv (q := 33) [.inr (12, 0, 1)] dX11_image_30 cb_X6_become cvRX11_341 rc_2 (show (12 : Nat) ≠ 0 by decide) rfl (Nat.le_of_ble_eq_true rfl) ⟨by decide, by decide⟩ (Nat.le_of_ble_eq_true rfl) rfl (tX6_become 40 1 M) rfl (fun M1 => ?_)
  refine K_iconst (q := 34) (v := nI 1) dX11_image_33 rfl rfl ?_
  exact J_zret dX11_image_34 (by decide)
def xX11_image  (l1 : Int32) (M : j_M) : Option (Int32 × j_M) := (if l1 = (0 : Int32) then (if (if M 0 2 = 0 then 0 else 12) = 0 then some ((nI 0), M) else gn (M 0 2) (obv (xX6_become 1 40 M) fun M1 => some ((nI 1), M1))) else (if (if M 0 2 = 0 then 0 else 12) = 0 then g0 (M 0 2) (oml (al_kept M) fun M2 => xX11_image_22  M2) else xX11_image_22  M))
set_option maxRecDepth 20000 in
set_option maxHeartbeats 2000000 in
theorem tX11_image  (l1 : Int32) (M : j_M) : J (ρ := Int32 × j_M) yX11_image cX11_image 2 (some .boolean) 5 160 j_ei 0 [(0, .inr (16, 0, 0)), (1, .inl (l1))] [] M (xX11_image  l1 M) := by
  unfold xX11_image
  refine K_iload_n (q := 1) 1 dX11_image_0 rfl rfl rfl ?_
  refine K_if_eq (q := 4) (tgt := 35) dX11_image_1 rfl ?_ rfl ?_
  · refine K_aload_n (q := 36) 0 dX11_image_35 rfl rfl rfl ?_
    refine K_getN (q := 39) (ci := 6) (a2 := 40) 2 dX11_image_36 fRX11_338 rfl rfl (by decide) rfl rfl ?_
    refine K_ifnn (q := 42) (tgt := 44) dX11_image_39 rfl ?_ rfl ?_
    · refine K_aload_n (q := 45) 0 dX11_image_44 rfl rfl rfl ?_
      refine K_getR (q := 48) (ci := 6) (a2 := 1) 0 dX11_image_45 fRX11_10 rfl rfl (by decide) rfl rfl ?_
      refine K_aload_n (q := 49) 0 dX11_image_48 rfl rfl rfl ?_
      refine K_getNN (q := 52) (ci := 6) (a2 := 40) 2 dX11_image_49 fRX11_338 rfl rfl (by decide) rfl rfl ?_
      refine K_cvv (q := 55) [.inr (12, 0, 40)] dX11_image_52 cb_X6_become cvRX11_341 rc_2 (show (12 : Nat) ≠ 0 by decide) rfl (Nat.le_of_ble_eq_true rfl) ⟨by decide, by decide⟩ (Nat.le_of_ble_eq_true rfl) rfl (tX6_become 1 40 M) rfl (fun M1 => ?_)
      refine K_iconst (q := 56) (v := nI 1) dX11_image_55 rfl rfl ?_
      exact J_zret dX11_image_56 (by decide)
    · refine K_iconst (q := 43) (v := nI 0) dX11_image_42 rfl rfl ?_
      exact J_zret dX11_image_43 (by decide)
  · refine K_aload_n (q := 5) 0 dX11_image_4 rfl rfl rfl ?_
    refine K_getN (q := 8) (ci := 6) (a2 := 40) 2 dX11_image_5 fRX11_338 rfl rfl (by decide) rfl rfl ?_
    refine K_ifnn (q := 11) (tgt := 22) dX11_image_8 rfl ?_ rfl ?_
    · exact J_sub [0] (tX11_image_22  M) rfl
    · refine K_aload_n (q := 12) 0 dX11_image_11 rfl rfl rfl ?_
      refine K_new_kept (by decide) (by decide) (fun M2 => ?_)
      exact J_sub [0] (tX11_image_22  M2) rfl
theorem dX11_prepareThought_0 : decode cX11_prepareThought 0 = .ok (.aload_n 0, 1) := by decide +kernel
theorem dX11_prepareThought_1 : decode cX11_prepareThought 1 = .ok (.getfield 257, 3) := by decide +kernel
theorem dX11_prepareThought_4 : decode cX11_prepareThought 4 = .ok (.ifnonnull 21, 3) := by decide +kernel
theorem dX11_prepareThought_7 : decode cX11_prepareThought 7 = .ok (.aload_n 0, 1) := by decide +kernel
theorem dX11_prepareThought_25 : decode cX11_prepareThought 25 = .ok (.aload_n 0, 1) := by decide +kernel
theorem dX11_prepareThought_26 : decode cX11_prepareThought 26 = .ok (.getfield 257, 3) := by decide +kernel
theorem dX11_prepareThought_29 : decode cX11_prepareThought 29 = .ok (.aload_n 0, 1) := by decide +kernel
theorem dX11_prepareThought_30 : decode cX11_prepareThought 30 = .ok (.getfield 10, 3) := by decide +kernel
theorem dX11_prepareThought_33 : decode cX11_prepareThought 33 = .ok (.getfield 33, 3) := by decide +kernel
theorem dX11_prepareThought_36 : decode cX11_prepareThought 36 = .ok (.invokevirtual 354, 3) := by decide +kernel
theorem dX11_prepareThought_39 : decode cX11_prepareThought 39 = .ok (.return_, 1) := by decide +kernel
def xX11_prepareThought_25    (M : j_M) : Option (j_M) := gn (M 0 3) (obv (xX1_become 70 2 M) fun M1 => some M1)
set_option maxRecDepth 20000 in
set_option maxHeartbeats 2000000 in
theorem tX11_prepareThought_25     (M : j_M) : J (ρ := j_M) yX11_prepareThought cX11_prepareThought 1 none 5 160 j_ev 25 [(0, .inr (16, 0, 0))] [] M (xX11_prepareThought_25   M) := by
  unfold xX11_prepareThought_25
  refine K_aload_n (q := 26) 0 dX11_prepareThought_25 rfl rfl rfl ?_
  refine K_getNN (q := 29) (ci := 6) (a2 := 70) 3 dX11_prepareThought_26 fRX11_257 rfl rfl (by decide) rfl rfl ?_
  refine K_aload_n (q := 30) 0 dX11_prepareThought_29 rfl rfl rfl ?_
  refine K_getR (q := 33) (ci := 6) (a2 := 1) 0 dX11_prepareThought_30 fRX11_10 rfl rfl (by decide) rfl rfl ?_
  refine K_getR (q := 36) (ci := 2) (a2 := 2) 1 dX11_prepareThought_33 fRX11_33 rfl rfl (by decide) rfl rfl ?_
  refine K_cvv (q := 39) [.inr (10, 0, 2)] dX11_prepareThought_36 cb_X1_become cvRX11_354 rc_0 (show (10 : Nat) ≠ 0 by decide) rfl (Nat.le_of_ble_eq_true rfl) ⟨by decide, by decide⟩ (Nat.le_of_ble_eq_true rfl) rfl (tX1_become 70 2 M) rfl (fun M1 => ?_)
  exact J_vret dX11_prepareThought_39
def xX11_prepareThought   (M : j_M) : Option (j_M) := (if (if M 0 3 = 0 then 0 else 10) = 0 then g0 (M 0 3) (oml (al_thought M) fun M1 => xX11_prepareThought_25  M1) else xX11_prepareThought_25  M)
set_option maxRecDepth 20000 in
set_option maxHeartbeats 2000000 in
theorem tX11_prepareThought   (M : j_M) : J (ρ := j_M) yX11_prepareThought cX11_prepareThought 1 none 5 160 j_ev 0 [(0, .inr (16, 0, 0))] [] M (xX11_prepareThought   M) := by
  unfold xX11_prepareThought
  refine K_aload_n (q := 1) 0 dX11_prepareThought_0 rfl rfl rfl ?_
  refine K_getN (q := 4) (ci := 6) (a2 := 70) 3 dX11_prepareThought_1 fRX11_257 rfl rfl (by decide) rfl rfl ?_
  refine K_ifnn (q := 7) (tgt := 25) dX11_prepareThought_4 rfl ?_ rfl ?_
  · exact J_sub [0] (tX11_prepareThought_25  M) rfl
  · refine K_aload_n (q := 8) 0 dX11_prepareThought_7 rfl rfl rfl ?_
    refine K_new_thought (by decide) (by decide) (fun M1 => ?_)
    exact J_sub [0] (tX11_prepareThought_25  M1) rfl
theorem dX11_soon_0 : decode cX11_soon 0 = .ok (.aload_n 0, 1) := by decide +kernel
theorem dX11_soon_1 : decode cX11_soon 1 = .ok (.getfield 10, 3) := by decide +kernel
theorem dX11_soon_4 : decode cX11_soon 4 = .ok (.getfield 33, 3) := by decide +kernel
theorem dX11_soon_7 : decode cX11_soon 7 = .ok (.iload_n 1, 1) := by decide +kernel
theorem dX11_soon_8 : decode cX11_soon 8 = .ok (.invokevirtual 173, 3) := by decide +kernel
theorem dX11_soon_11 : decode cX11_soon 11 = .ok (.ifCond .ne 5, 3) := by decide +kernel
theorem dX11_soon_14 : decode cX11_soon 14 = .ok (.iconst (-1), 1) := by decide +kernel
theorem dX11_soon_15 : decode cX11_soon 15 = .ok (.ireturn, 1) := by decide +kernel
theorem dX11_soon_16 : decode cX11_soon 16 = .ok (.aload_n 0, 1) := by decide +kernel
theorem dX11_soon_17 : decode cX11_soon 17 = .ok (.getfield 10, 3) := by decide +kernel
theorem dX11_soon_20 : decode cX11_soon 20 = .ok (.getfield 33, 3) := by decide +kernel
theorem dX11_soon_23 : decode cX11_soon 23 = .ok (.iload_n 1, 1) := by decide +kernel
theorem dX11_soon_24 : decode cX11_soon 24 = .ok (.invokevirtual 176, 3) := by decide +kernel
theorem dX11_soon_27 : decode cX11_soon 27 = .ok (.ifCond .ne 5, 3) := by decide +kernel
theorem dX11_soon_30 : decode cX11_soon 30 = .ok (.iconst 0, 1) := by decide +kernel
theorem dX11_soon_31 : decode cX11_soon 31 = .ok (.ireturn, 1) := by decide +kernel
theorem dX11_soon_32 : decode cX11_soon 32 = .ok (.aload_n 0, 1) := by decide +kernel
theorem dX11_soon_33 : decode cX11_soon 33 = .ok (.invokevirtual 254, 3) := by decide +kernel
theorem dX11_soon_36 : decode cX11_soon 36 = .ok (.iconst 1, 1) := by decide +kernel
theorem dX11_soon_37 : decode cX11_soon 37 = .ok (.istore_n 2, 1) := by decide +kernel
theorem dX11_soon_38 : decode cX11_soon 38 = .ok (.iload_n 2, 1) := by decide +kernel
theorem dX11_soon_39 : decode cX11_soon 39 = .ok (.bipush 60, 2) := by decide +kernel
theorem dX11_soon_41 : decode cX11_soon 41 = .ok (.if_icmp .gt 31, 3) := by decide +kernel
theorem dX11_soon_44 : decode cX11_soon 44 = .ok (.aload_n 0, 1) := by decide +kernel
theorem dX11_soon_45 : decode cX11_soon 45 = .ok (.getfield 257, 3) := by decide +kernel
theorem dX11_soon_48 : decode cX11_soon 48 = .ok (.iconst 1, 1) := by decide +kernel
theorem dX11_soon_49 : decode cX11_soon 49 = .ok (.invokevirtual 84, 3) := by decide +kernel
theorem dX11_soon_52 : decode cX11_soon 52 = .ok (.pop, 1) := by decide +kernel
theorem dX11_soon_53 : decode cX11_soon 53 = .ok (.aload_n 0, 1) := by decide +kernel
theorem dX11_soon_54 : decode cX11_soon 54 = .ok (.getfield 257, 3) := by decide +kernel
theorem dX11_soon_57 : decode cX11_soon 57 = .ok (.iload_n 1, 1) := by decide +kernel
theorem dX11_soon_58 : decode cX11_soon 58 = .ok (.invokevirtual 176, 3) := by decide +kernel
theorem dX11_soon_61 : decode cX11_soon 61 = .ok (.ifCond .ne 5, 3) := by decide +kernel
theorem dX11_soon_64 : decode cX11_soon 64 = .ok (.iload_n 2, 1) := by decide +kernel
theorem dX11_soon_65 : decode cX11_soon 65 = .ok (.ireturn, 1) := by decide +kernel
theorem dX11_soon_66 : decode cX11_soon 66 = .ok (.iinc 2 1, 3) := by decide +kernel
theorem dX11_soon_69 : decode cX11_soon 69 = .ok (.goto (-31), 3) := by decide +kernel
theorem dX11_soon_72 : decode cX11_soon 72 = .ok (.iconst (-1), 1) := by decide +kernel
theorem dX11_soon_73 : decode cX11_soon 73 = .ok (.ireturn, 1) := by decide +kernel
def xX11_soon_38   : Nat → Int32 → Int32 → j_M → Option (Int32 × j_M)
  | 0, _, _, _ => none
  | n + 1, l1, l2, M => (if (nI 60) < l2 then some ((-1 : Int32), M) else gn (M 0 3) (obi (xX1_calmRounds 70 (nI 1) M) fun v2 M1 => gn (M1 0 3) (obi (xX1_missOf 70 l1 M1) fun v4 M3 => (if v4 = (0 : Int32) then some (l2, M3) else xX11_soon_38  n l1 (l2 + (nI 1)) M3))))
set_option maxRecDepth 20000 in
set_option maxHeartbeats 2000000 in
theorem tX11_soon_38    : ∀ (n : Nat) (l1 : Int32) (l2 : Int32) (M : j_M), J (ρ := Int32 × j_M) yX11_soon cX11_soon 3 (some .int) 6 180 j_ei 38 [(0, .inr (16, 0, 0)), (1, .inl (l1)), (2, .inl (l2))] [] M (xX11_soon_38  n l1 l2 M) := by
  intro n
  induction n with
  | zero => intros; exact J_none
  | succ n ih =>
    intro l1 l2 M
    rw [xX11_soon_38.eq_2]
    refine K_iload_n (q := 39) 2 dX11_soon_38 rfl rfl rfl ?_
    refine K_bipush (q := 41) (v := nI 60) dX11_soon_39 rfl rfl ?_
    refine K_icmp_gt (q := 44) (tgt := 72) dX11_soon_41 rfl ?_ rfl ?_
    · refine K_iconst (q := 73) (v := -1) dX11_soon_72 rfl rfl ?_
      exact J_iret dX11_soon_73
    · refine K_aload_n (q := 45) 0 dX11_soon_44 rfl rfl rfl ?_
      refine K_getNN (q := 48) (ci := 6) (a2 := 70) 3 dX11_soon_45 fRX11_257 rfl rfl (by decide) rfl rfl ?_
      refine K_iconst (q := 49) (v := nI 1) dX11_soon_48 rfl rfl ?_
      refine K_cvi (q := 52) [.inl ((nI 1))] dX11_soon_49 cb_X1_calmRounds cvRX11_84 rc_0 (show (10 : Nat) ≠ 0 by decide) rfl (Nat.le_of_ble_eq_true rfl) ⟨by decide, by decide⟩ (Nat.le_of_ble_eq_true rfl) rfl (tX1_calmRounds 70 (nI 1) M) rfl (fun v2 M1 => ?_)
      refine K_pop (q := 53) dX11_soon_52 rfl ?_
      refine K_aload_n (q := 54) 0 dX11_soon_53 rfl rfl rfl ?_
      refine K_getNN (q := 57) (ci := 6) (a2 := 70) 3 dX11_soon_54 fRX11_257 rfl rfl (by decide) rfl rfl ?_
      refine K_iload_n (q := 58) 1 dX11_soon_57 rfl rfl rfl ?_
      refine K_cvi (q := 61) [.inl (l1)] dX11_soon_58 cb_X1_missOf cvRX11_176 rc_0 (show (10 : Nat) ≠ 0 by decide) rfl (Nat.le_of_ble_eq_true rfl) ⟨by decide, by decide⟩ (Nat.le_of_ble_eq_true rfl) rfl (tX1_missOf 70 l1 M1) rfl (fun v4 M3 => ?_)
      refine K_if_ne (q := 64) (tgt := 66) dX11_soon_61 rfl ?_ rfl ?_
      · refine K_iinc (q := 69) (v := l2 + (nI 1)) (ll' := [(2, .inl (l2 + (nI 1))), (0, .inr (16, 0, 0)), (1, .inl (l1))]) 2 dX11_soon_66 rfl rfl (by decide) rfl rfl ?_
        refine J_goto (tgt := 38) dX11_soon_69 rfl ?_
        exact J_sub [1, 2, 0] (ih l1 (l2 + (nI 1)) M3) rfl
      · refine K_iload_n (q := 65) 2 dX11_soon_64 rfl rfl rfl ?_
        exact J_iret dX11_soon_65
def xX11_soon  (l1 : Int32) (M : j_M) : Option (Int32 × j_M) := obi (xX1_isCpu 2 l1 M) fun v2 M1 => (if v2 = (0 : Int32) then some ((-1 : Int32), M1) else obi (xX1_missOf 2 l1 M1) fun v4 M3 => (if v4 = (0 : Int32) then some ((nI 0), M3) else obv (xX11_prepareThought M3) fun M5 => xX11_soon_38 fu l1 (nI 1) M5))
set_option maxRecDepth 20000 in
set_option maxHeartbeats 2000000 in
theorem tX11_soon  (l1 : Int32) (M : j_M) : J (ρ := Int32 × j_M) yX11_soon cX11_soon 3 (some .int) 6 180 j_ei 0 [(0, .inr (16, 0, 0)), (1, .inl (l1))] [] M (xX11_soon  l1 M) := by
  unfold xX11_soon
  refine K_aload_n (q := 1) 0 dX11_soon_0 rfl rfl rfl ?_
  refine K_getR (q := 4) (ci := 6) (a2 := 1) 0 dX11_soon_1 fRX11_10 rfl rfl (by decide) rfl rfl ?_
  refine K_getR (q := 7) (ci := 2) (a2 := 2) 1 dX11_soon_4 fRX11_33 rfl rfl (by decide) rfl rfl ?_
  refine K_iload_n (q := 8) 1 dX11_soon_7 rfl rfl rfl ?_
  refine K_cvi (q := 11) [.inl (l1)] dX11_soon_8 cb_X1_isCpu cvRX11_173 rc_0 (show (10 : Nat) ≠ 0 by decide) rfl (Nat.le_of_ble_eq_true rfl) ⟨by decide, by decide⟩ (Nat.le_of_ble_eq_true rfl) rfl (tX1_isCpu 2 l1 M) rfl (fun v2 M1 => ?_)
  refine K_if_ne (q := 14) (tgt := 16) dX11_soon_11 rfl ?_ rfl ?_
  · refine K_aload_n (q := 17) 0 dX11_soon_16 rfl rfl rfl ?_
    refine K_getR (q := 20) (ci := 6) (a2 := 1) 0 dX11_soon_17 fRX11_10 rfl rfl (by decide) rfl rfl ?_
    refine K_getR (q := 23) (ci := 2) (a2 := 2) 1 dX11_soon_20 fRX11_33 rfl rfl (by decide) rfl rfl ?_
    refine K_iload_n (q := 24) 1 dX11_soon_23 rfl rfl rfl ?_
    refine K_cvi (q := 27) [.inl (l1)] dX11_soon_24 cb_X1_missOf cvRX11_176 rc_0 (show (10 : Nat) ≠ 0 by decide) rfl (Nat.le_of_ble_eq_true rfl) ⟨by decide, by decide⟩ (Nat.le_of_ble_eq_true rfl) rfl (tX1_missOf 2 l1 M1) rfl (fun v4 M3 => ?_)
    refine K_if_ne (q := 30) (tgt := 32) dX11_soon_27 rfl ?_ rfl ?_
    · refine K_aload_n (q := 33) 0 dX11_soon_32 rfl rfl rfl ?_
      refine K_cvv (q := 36) [] dX11_soon_33 cb_X11_prepareThought cvRX11_254 rc_6 (show (16 : Nat) ≠ 0 by decide) rfl (Nat.le_of_ble_eq_true rfl) ⟨by decide, by decide⟩ (Nat.le_of_ble_eq_true rfl) rfl (tX11_prepareThought M3) rfl (fun M5 => ?_)
      refine K_iconst (q := 37) (v := nI 1) dX11_soon_36 rfl rfl ?_
      refine K_istore_n (q := 38) (ll' := [(2, .inl ((nI 1))), (0, .inr (16, 0, 0)), (1, .inl (l1))]) dX11_soon_37 rfl (by decide) rfl rfl ?_
      exact J_sub [1, 2, 0] (tX11_soon_38 fu l1 (nI 1) M5) rfl
    · refine K_iconst (q := 31) (v := nI 0) dX11_soon_30 rfl rfl ?_
      exact J_iret dX11_soon_31
  · refine K_iconst (q := 15) (v := -1) dX11_soon_14 rfl rfl ?_
    exact J_iret dX11_soon_15
theorem dX11_walk_0 : decode cX11_walk 0 = .ok (.iload_n 1, 1) := by decide +kernel
theorem dX11_walk_1 : decode cX11_walk 1 = .ok (.ifCond .lt 8, 3) := by decide +kernel
theorem dX11_walk_4 : decode cX11_walk 4 = .ok (.iload_n 1, 1) := by decide +kernel
theorem dX11_walk_5 : decode cX11_walk 5 = .ok (.iconst 4, 1) := by decide +kernel
theorem dX11_walk_6 : decode cX11_walk 6 = .ok (.if_icmp .le 5, 3) := by decide +kernel
theorem dX11_walk_9 : decode cX11_walk 9 = .ok (.iconst (-1), 1) := by decide +kernel
theorem dX11_walk_10 : decode cX11_walk 10 = .ok (.ireturn, 1) := by decide +kernel
theorem dX11_walk_11 : decode cX11_walk 11 = .ok (.aload_n 0, 1) := by decide +kernel
theorem dX11_walk_12 : decode cX11_walk 12 = .ok (.invokevirtual 254, 3) := by decide +kernel
theorem dX11_walk_15 : decode cX11_walk 15 = .ok (.aload_n 0, 1) := by decide +kernel
theorem dX11_walk_16 : decode cX11_walk 16 = .ok (.getfield 260, 3) := by decide +kernel
theorem dX11_walk_19 : decode cX11_walk 19 = .ok (.ifnonnull 14, 3) := by decide +kernel
theorem dX11_walk_22 : decode cX11_walk 22 = .ok (.aload_n 0, 1) := by decide +kernel
theorem dX11_walk_33 : decode cX11_walk 33 = .ok (.aload_n 0, 1) := by decide +kernel
theorem dX11_walk_34 : decode cX11_walk 34 = .ok (.getfield 260, 3) := by decide +kernel
theorem dX11_walk_37 : decode cX11_walk 37 = .ok (.aload_n 0, 1) := by decide +kernel
theorem dX11_walk_38 : decode cX11_walk 38 = .ok (.getfield 257, 3) := by decide +kernel
theorem dX11_walk_41 : decode cX11_walk 41 = .ok (.invokevirtual 267, 3) := by decide +kernel
theorem dX11_walk_44 : decode cX11_walk 44 = .ok (.ifCond .ne 14, 3) := by decide +kernel
theorem dX11_walk_47 : decode cX11_walk 47 = .ok (.aload_n 0, 1) := by decide +kernel
theorem dX11_walk_48 : decode cX11_walk 48 = .ok (.getfield 260, 3) := by decide +kernel
theorem dX11_walk_51 : decode cX11_walk 51 = .ok (.aload_n 0, 1) := by decide +kernel
theorem dX11_walk_52 : decode cX11_walk 52 = .ok (.getfield 257, 3) := by decide +kernel
theorem dX11_walk_55 : decode cX11_walk 55 = .ok (.invokevirtual 271, 3) := by decide +kernel
theorem dX11_walk_58 : decode cX11_walk 58 = .ok (.aload_n 0, 1) := by decide +kernel
theorem dX11_walk_59 : decode cX11_walk 59 = .ok (.getfield 260, 3) := by decide +kernel
theorem dX11_walk_62 : decode cX11_walk 62 = .ok (.getfield 275, 3) := by decide +kernel
theorem dX11_walk_65 : decode cX11_walk 65 = .ok (.iload_n 1, 1) := by decide +kernel
theorem dX11_walk_66 : decode cX11_walk 66 = .ok (.iaload, 1) := by decide +kernel
theorem dX11_walk_67 : decode cX11_walk 67 = .ok (.ireturn, 1) := by decide +kernel
def xX11_walk_58   (l1 : Int32) (M : j_M) : Option (Int32 × j_M) := gn (M 0 4) (gd l1 5 (oli (M 101 (ix l1)) fun v1 => some (v1, M)))
set_option maxRecDepth 20000 in
set_option maxHeartbeats 2000000 in
theorem tX11_walk_58    (l1 : Int32) (M : j_M) : J (ρ := Int32 × j_M) yX11_walk cX11_walk 2 (some .int) 7 185 j_ei 58 [(0, .inr (16, 0, 0)), (1, .inl (l1))] [] M (xX11_walk_58  l1 M) := by
  unfold xX11_walk_58
  refine K_aload_n (q := 59) 0 dX11_walk_58 rfl rfl rfl ?_
  refine K_getNN (q := 62) (ci := 6) (a2 := 100) 4 dX11_walk_59 fRX11_260 rfl rfl (by decide) rfl rfl ?_
  refine K_getR (q := 65) (ci := 5) (a2 := 101) 0 dX11_walk_62 fRX11_275 rfl rfl (by decide) rfl rfl ?_
  refine K_iload_n (q := 66) 1 dX11_walk_65 rfl rfl rfl ?_
  refine K_iald (q := 67) dX11_walk_66 rfl (fun v1 => ?_)
  exact J_iret dX11_walk_67
def xX11_walk_33   (l1 : Int32) (M : j_M) : Option (Int32 × j_M) := gn (M 0 4) (gn (M 0 3) (obi (xX10_knows 70 M) fun v2 M1 => (if v2 = (0 : Int32) then gn (M1 0 4) (gn (M1 0 3) (obv (xX10_explore 70 M1) fun M3 => xX11_walk_58  l1 M3)) else xX11_walk_58  l1 M1)))
set_option maxRecDepth 20000 in
set_option maxHeartbeats 2000000 in
theorem tX11_walk_33    (l1 : Int32) (M : j_M) : J (ρ := Int32 × j_M) yX11_walk cX11_walk 2 (some .int) 7 185 j_ei 33 [(0, .inr (16, 0, 0)), (1, .inl (l1))] [] M (xX11_walk_33  l1 M) := by
  unfold xX11_walk_33
  refine K_aload_n (q := 34) 0 dX11_walk_33 rfl rfl rfl ?_
  refine K_getNN (q := 37) (ci := 6) (a2 := 100) 4 dX11_walk_34 fRX11_260 rfl rfl (by decide) rfl rfl ?_
  refine K_aload_n (q := 38) 0 dX11_walk_37 rfl rfl rfl ?_
  refine K_getNN (q := 41) (ci := 6) (a2 := 70) 3 dX11_walk_38 fRX11_257 rfl rfl (by decide) rfl rfl ?_
  refine K_cvi (q := 44) [.inr (10, 0, 70)] dX11_walk_41 cb_X10_knows cvRX11_267 rc_5 (show (15 : Nat) ≠ 0 by decide) rfl (Nat.le_of_ble_eq_true rfl) ⟨by decide, by decide⟩ (Nat.le_of_ble_eq_true rfl) rfl (tX10_knows 70 M) rfl (fun v2 M1 => ?_)
  refine K_if_ne (q := 47) (tgt := 58) dX11_walk_44 rfl ?_ rfl ?_
  · exact J_sub [0, 1] (tX11_walk_58  l1 M1) rfl
  · refine K_aload_n (q := 48) 0 dX11_walk_47 rfl rfl rfl ?_
    refine K_getNN (q := 51) (ci := 6) (a2 := 100) 4 dX11_walk_48 fRX11_260 rfl rfl (by decide) rfl rfl ?_
    refine K_aload_n (q := 52) 0 dX11_walk_51 rfl rfl rfl ?_
    refine K_getNN (q := 55) (ci := 6) (a2 := 70) 3 dX11_walk_52 fRX11_257 rfl rfl (by decide) rfl rfl ?_
    refine K_cvv (q := 58) [.inr (10, 0, 70)] dX11_walk_55 cb_X10_explore cvRX11_271 rc_5 (show (15 : Nat) ≠ 0 by decide) rfl (Nat.le_of_ble_eq_true rfl) ⟨by decide, by decide⟩ (Nat.le_of_ble_eq_true rfl) rfl (tX10_explore 70 M1) rfl (fun M3 => ?_)
    exact J_sub [0, 1] (tX11_walk_58  l1 M3) rfl
def xX11_walk  (l1 : Int32) (M : j_M) : Option (Int32 × j_M) := (if l1 < (0 : Int32) then some ((-1 : Int32), M) else (if l1 ≤ (nI 4) then obv (xX11_prepareThought M) fun M1 => (if (if M1 0 4 = 0 then 0 else 15) = 0 then g0 (M1 0 4) (oml (al_walker M1) fun M2 => xX11_walk_33  l1 M2) else xX11_walk_33  l1 M1) else some ((-1 : Int32), M)))
set_option maxRecDepth 20000 in
set_option maxHeartbeats 2000000 in
theorem tX11_walk  (l1 : Int32) (M : j_M) : J (ρ := Int32 × j_M) yX11_walk cX11_walk 2 (some .int) 7 185 j_ei 0 [(0, .inr (16, 0, 0)), (1, .inl (l1))] [] M (xX11_walk  l1 M) := by
  unfold xX11_walk
  refine K_iload_n (q := 1) 1 dX11_walk_0 rfl rfl rfl ?_
  refine K_if_lt (q := 4) (tgt := 9) dX11_walk_1 rfl ?_ rfl ?_
  · refine K_iconst (q := 10) (v := -1) dX11_walk_9 rfl rfl ?_
    exact J_iret dX11_walk_10
  · refine K_iload_n (q := 5) 1 dX11_walk_4 rfl rfl rfl ?_
    refine K_iconst (q := 6) (v := nI 4) dX11_walk_5 rfl rfl ?_
    refine K_icmp_le (q := 9) (tgt := 11) dX11_walk_6 rfl ?_ rfl ?_
    · refine K_aload_n (q := 12) 0 dX11_walk_11 rfl rfl rfl ?_
      refine K_cvv (q := 15) [] dX11_walk_12 cb_X11_prepareThought cvRX11_254 rc_6 (show (16 : Nat) ≠ 0 by decide) rfl (Nat.le_of_ble_eq_true rfl) ⟨by decide, by decide⟩ (Nat.le_of_ble_eq_true rfl) rfl (tX11_prepareThought M) rfl (fun M1 => ?_)
      refine K_aload_n (q := 16) 0 dX11_walk_15 rfl rfl rfl ?_
      refine K_getN (q := 19) (ci := 6) (a2 := 100) 4 dX11_walk_16 fRX11_260 rfl rfl (by decide) rfl rfl ?_
      refine K_ifnn (q := 22) (tgt := 33) dX11_walk_19 rfl ?_ rfl ?_
      · exact J_sub [0, 1] (tX11_walk_33  l1 M1) rfl
      · refine K_aload_n (q := 23) 0 dX11_walk_22 rfl rfl rfl ?_
        refine K_new_walker (by decide) (by decide) (fun M2 => ?_)
        exact J_sub [0, 1] (tX11_walk_33  l1 M2) rfl
    · refine K_iconst (q := 10) (v := -1) dX11_walk_9 rfl rfl ?_
      exact J_iret dX11_walk_10
theorem dX12_init_136 : decode cX12_init 136 = .ok (.aload_n 0, 1) := by decide +kernel
theorem dX12_init_137 : decode cX12_init 137 = .ok (.getfield 9, 3) := by decide +kernel
theorem dX12_init_140 : decode cX12_init 140 = .ok (.iconst 0, 1) := by decide +kernel
theorem dX12_init_141 : decode cX12_init 141 = .ok (.iconst 3, 1) := by decide +kernel
theorem dX12_init_142 : decode cX12_init 142 = .ok (.iastore, 1) := by decide +kernel
theorem dX12_init_143 : decode cX12_init 143 = .ok (.aload_n 0, 1) := by decide +kernel
theorem dX12_init_144 : decode cX12_init 144 = .ok (.getfield 9, 3) := by decide +kernel
theorem dX12_init_147 : decode cX12_init 147 = .ok (.iconst 1, 1) := by decide +kernel
theorem dX12_init_148 : decode cX12_init 148 = .ok (.bipush 8, 2) := by decide +kernel
theorem dX12_init_150 : decode cX12_init 150 = .ok (.iastore, 1) := by decide +kernel
theorem dX12_init_151 : decode cX12_init 151 = .ok (.aload_n 0, 1) := by decide +kernel
theorem dX12_init_152 : decode cX12_init 152 = .ok (.getfield 9, 3) := by decide +kernel
theorem dX12_init_155 : decode cX12_init 155 = .ok (.iconst 2, 1) := by decide +kernel
theorem dX12_init_156 : decode cX12_init 156 = .ok (.iconst 4, 1) := by decide +kernel
theorem dX12_init_157 : decode cX12_init 157 = .ok (.iastore, 1) := by decide +kernel
theorem dX12_init_158 : decode cX12_init 158 = .ok (.aload_n 0, 1) := by decide +kernel
theorem dX12_init_159 : decode cX12_init 159 = .ok (.getfield 9, 3) := by decide +kernel
theorem dX12_init_162 : decode cX12_init 162 = .ok (.iconst 4, 1) := by decide +kernel
theorem dX12_init_163 : decode cX12_init 163 = .ok (.bipush 6, 2) := by decide +kernel
theorem dX12_init_165 : decode cX12_init 165 = .ok (.iastore, 1) := by decide +kernel
theorem dX12_init_166 : decode cX12_init 166 = .ok (.iconst 0, 1) := by decide +kernel
theorem dX12_init_167 : decode cX12_init 167 = .ok (.istore_n 1, 1) := by decide +kernel
theorem dX12_init_168 : decode cX12_init 168 = .ok (.iload_n 1, 1) := by decide +kernel
theorem dX12_init_169 : decode cX12_init 169 = .ok (.bipush 8, 2) := by decide +kernel
theorem dX12_init_171 : decode cX12_init 171 = .ok (.if_icmp .ge 55, 3) := by decide +kernel
theorem dX12_init_174 : decode cX12_init 174 = .ok (.aload_n 0, 1) := by decide +kernel
theorem dX12_init_175 : decode cX12_init 175 = .ok (.getfield 9, 3) := by decide +kernel
theorem dX12_init_178 : decode cX12_init 178 = .ok (.bipush 14, 2) := by decide +kernel
theorem dX12_init_180 : decode cX12_init 180 = .ok (.bipush 6, 2) := by decide +kernel
theorem dX12_init_182 : decode cX12_init 182 = .ok (.iload_n 1, 1) := by decide +kernel
theorem dX12_init_183 : decode cX12_init 183 = .ok (.invokestatic 61, 3) := by decide +kernel
theorem dX12_init_186 : decode cX12_init 186 = .ok (.iadd, 1) := by decide +kernel
theorem dX12_init_187 : decode cX12_init 187 = .ok (.bipush 8, 2) := by decide +kernel
theorem dX12_init_189 : decode cX12_init 189 = .ok (.iastore, 1) := by decide +kernel
theorem dX12_init_190 : decode cX12_init 190 = .ok (.aload_n 0, 1) := by decide +kernel
theorem dX12_init_191 : decode cX12_init 191 = .ok (.getfield 9, 3) := by decide +kernel
theorem dX12_init_194 : decode cX12_init 194 = .ok (.bipush 70, 2) := by decide +kernel
theorem dX12_init_196 : decode cX12_init 196 = .ok (.bipush 6, 2) := by decide +kernel
theorem dX12_init_198 : decode cX12_init 198 = .ok (.iload_n 1, 1) := by decide +kernel
theorem dX12_init_199 : decode cX12_init 199 = .ok (.invokestatic 61, 3) := by decide +kernel
theorem dX12_init_202 : decode cX12_init 202 = .ok (.iadd, 1) := by decide +kernel
theorem dX12_init_203 : decode cX12_init 203 = .ok (.iconst 1, 1) := by decide +kernel
theorem dX12_init_204 : decode cX12_init 204 = .ok (.iastore, 1) := by decide +kernel
theorem dX12_init_205 : decode cX12_init 205 = .ok (.aload_n 0, 1) := by decide +kernel
theorem dX12_init_206 : decode cX12_init 206 = .ok (.getfield 9, 3) := by decide +kernel
theorem dX12_init_209 : decode cX12_init 209 = .ok (.bipush 126, 2) := by decide +kernel
theorem dX12_init_211 : decode cX12_init 211 = .ok (.bipush 6, 2) := by decide +kernel
theorem dX12_init_213 : decode cX12_init 213 = .ok (.iload_n 1, 1) := by decide +kernel
theorem dX12_init_214 : decode cX12_init 214 = .ok (.invokestatic 61, 3) := by decide +kernel
theorem dX12_init_217 : decode cX12_init 217 = .ok (.iadd, 1) := by decide +kernel
theorem dX12_init_218 : decode cX12_init 218 = .ok (.iconst 1, 1) := by decide +kernel
theorem dX12_init_219 : decode cX12_init 219 = .ok (.iastore, 1) := by decide +kernel
theorem dX12_init_220 : decode cX12_init 220 = .ok (.iinc 1 1, 3) := by decide +kernel
theorem dX12_init_223 : decode cX12_init 223 = .ok (.goto (-55), 3) := by decide +kernel
theorem dX12_init_226 : decode cX12_init 226 = .ok (.iconst 0, 1) := by decide +kernel
theorem dX12_init_227 : decode cX12_init 227 = .ok (.istore_n 1, 1) := by decide +kernel
theorem dX12_init_228 : decode cX12_init 228 = .ok (.iload_n 1, 1) := by decide +kernel
theorem dX12_init_229 : decode cX12_init 229 = .ok (.bipush 6, 2) := by decide +kernel
theorem dX12_init_231 : decode cX12_init 231 = .ok (.if_icmp .ge 20, 3) := by decide +kernel
theorem dX12_init_234 : decode cX12_init 234 = .ok (.aload_n 0, 1) := by decide +kernel
theorem dX12_init_235 : decode cX12_init 235 = .ok (.getfield 9, 3) := by decide +kernel
theorem dX12_init_238 : decode cX12_init 238 = .ok (.sipush 292, 3) := by decide +kernel
theorem dX12_init_241 : decode cX12_init 241 = .ok (.iload_n 1, 1) := by decide +kernel
theorem dX12_init_242 : decode cX12_init 242 = .ok (.iadd, 1) := by decide +kernel
theorem dX12_init_243 : decode cX12_init 243 = .ok (.iconst (-1), 1) := by decide +kernel
theorem dX12_init_244 : decode cX12_init 244 = .ok (.iastore, 1) := by decide +kernel
theorem dX12_init_245 : decode cX12_init 245 = .ok (.iinc 1 1, 3) := by decide +kernel
theorem dX12_init_248 : decode cX12_init 248 = .ok (.goto (-20), 3) := by decide +kernel
theorem dX12_init_251 : decode cX12_init 251 = .ok (.iconst 0, 1) := by decide +kernel
theorem dX12_init_252 : decode cX12_init 252 = .ok (.istore_n 1, 1) := by decide +kernel
theorem dX12_init_253 : decode cX12_init 253 = .ok (.iload_n 1, 1) := by decide +kernel
theorem dX12_init_254 : decode cX12_init 254 = .ok (.bipush 48, 2) := by decide +kernel
theorem dX12_init_256 : decode cX12_init 256 = .ok (.if_icmp .ge 20, 3) := by decide +kernel
theorem dX12_init_259 : decode cX12_init 259 = .ok (.aload_n 0, 1) := by decide +kernel
theorem dX12_init_260 : decode cX12_init 260 = .ok (.getfield 9, 3) := by decide +kernel
theorem dX12_init_263 : decode cX12_init 263 = .ok (.sipush 538, 3) := by decide +kernel
theorem dX12_init_266 : decode cX12_init 266 = .ok (.iload_n 1, 1) := by decide +kernel
theorem dX12_init_267 : decode cX12_init 267 = .ok (.iadd, 1) := by decide +kernel
theorem dX12_init_268 : decode cX12_init 268 = .ok (.iconst (-1), 1) := by decide +kernel
theorem dX12_init_269 : decode cX12_init 269 = .ok (.iastore, 1) := by decide +kernel
theorem dX12_init_270 : decode cX12_init 270 = .ok (.iinc 1 1, 3) := by decide +kernel
theorem dX12_init_273 : decode cX12_init 273 = .ok (.goto (-20), 3) := by decide +kernel
theorem dX12_init_276 : decode cX12_init 276 = .ok (.return_, 1) := by decide +kernel
def xX12_init_253   : Nat → Int32 → j_M → Option (j_M)
  | 0, _, _ => none
  | n + 1, l1, M => (if (nI 48) ≤ l1 then some M else gd ((nI 538) + l1) 7460 (oml (mw M 201 (ix ((nI 538) + l1)) (-1 : Int32)) fun M1 => xX12_init_253  n (l1 + (nI 1)) M1))
set_option maxRecDepth 20000 in
set_option maxHeartbeats 2000000 in
theorem tX12_init_253    : ∀ (n : Nat) (l1 : Int32) (M : j_M), J (ρ := j_M) yX12_init cX12_init 2 none 1 21 j_ev 253 [(0, .inr (17, 0, 200)), (1, .inl (l1))] [] M (xX12_init_253  n l1 M) := by
  intro n
  induction n with
  | zero => intros; exact J_none
  | succ n ih =>
    intro l1 M
    rw [xX12_init_253.eq_2]
    refine K_iload_n (q := 254) 1 dX12_init_253 rfl rfl rfl ?_
    refine K_bipush (q := 256) (v := nI 48) dX12_init_254 rfl rfl ?_
    refine K_icmp_ge (q := 259) (tgt := 276) dX12_init_256 rfl ?_ rfl ?_
    · exact J_vret dX12_init_276
    · refine K_aload_n (q := 260) 0 dX12_init_259 rfl rfl rfl ?_
      refine K_getR (q := 263) (ci := 7) (a2 := 201) 0 dX12_init_260 fRX12_9 rfl rfl (by decide) rfl rfl ?_
      refine K_sipush (q := 266) (v := nI 538) dX12_init_263 rfl rfl ?_
      refine K_iload_n (q := 267) 1 dX12_init_266 rfl rfl rfl ?_
      refine K_iadd (q := 268) dX12_init_267 rfl ?_
      refine K_iconst (q := 269) (v := -1) dX12_init_268 rfl rfl ?_
      refine K_iast (q := 270) dX12_init_269 rfl (fun M1 => ?_)
      refine K_iinc (q := 273) (v := l1 + (nI 1)) (ll' := [(1, .inl (l1 + (nI 1))), (0, .inr (17, 0, 200))]) 1 dX12_init_270 rfl rfl (by decide) rfl rfl ?_
      refine J_goto (tgt := 253) dX12_init_273 rfl ?_
      exact J_sub [1, 0] (ih (l1 + (nI 1)) M1) rfl
def xX12_init_228   : Nat → Int32 → j_M → Option (j_M)
  | 0, _, _ => none
  | n + 1, l1, M => (if (nI 6) ≤ l1 then xX12_init_253 fu (nI 0) M else gd ((nI 292) + l1) 7460 (oml (mw M 201 (ix ((nI 292) + l1)) (-1 : Int32)) fun M1 => xX12_init_228  n (l1 + (nI 1)) M1))
set_option maxRecDepth 20000 in
set_option maxHeartbeats 2000000 in
theorem tX12_init_228    : ∀ (n : Nat) (l1 : Int32) (M : j_M), J (ρ := j_M) yX12_init cX12_init 2 none 1 21 j_ev 228 [(0, .inr (17, 0, 200)), (1, .inl (l1))] [] M (xX12_init_228  n l1 M) := by
  intro n
  induction n with
  | zero => intros; exact J_none
  | succ n ih =>
    intro l1 M
    rw [xX12_init_228.eq_2]
    refine K_iload_n (q := 229) 1 dX12_init_228 rfl rfl rfl ?_
    refine K_bipush (q := 231) (v := nI 6) dX12_init_229 rfl rfl ?_
    refine K_icmp_ge (q := 234) (tgt := 251) dX12_init_231 rfl ?_ rfl ?_
    · refine K_iconst (q := 252) (v := nI 0) dX12_init_251 rfl rfl ?_
      refine K_istore_n (q := 253) (ll' := [(1, .inl ((nI 0))), (0, .inr (17, 0, 200))]) dX12_init_252 rfl (by decide) rfl rfl ?_
      exact J_sub [1, 0] (tX12_init_253 fu (nI 0) M) rfl
    · refine K_aload_n (q := 235) 0 dX12_init_234 rfl rfl rfl ?_
      refine K_getR (q := 238) (ci := 7) (a2 := 201) 0 dX12_init_235 fRX12_9 rfl rfl (by decide) rfl rfl ?_
      refine K_sipush (q := 241) (v := nI 292) dX12_init_238 rfl rfl ?_
      refine K_iload_n (q := 242) 1 dX12_init_241 rfl rfl rfl ?_
      refine K_iadd (q := 243) dX12_init_242 rfl ?_
      refine K_iconst (q := 244) (v := -1) dX12_init_243 rfl rfl ?_
      refine K_iast (q := 245) dX12_init_244 rfl (fun M1 => ?_)
      refine K_iinc (q := 248) (v := l1 + (nI 1)) (ll' := [(1, .inl (l1 + (nI 1))), (0, .inr (17, 0, 200))]) 1 dX12_init_245 rfl rfl (by decide) rfl rfl ?_
      refine J_goto (tgt := 228) dX12_init_248 rfl ?_
      exact J_sub [1, 0] (ih (l1 + (nI 1)) M1) rfl
def xX12_init_168   : Nat → Int32 → j_M → Option (j_M)
  | 0, _, _ => none
  | n + 1, l1, M => (if (nI 8) ≤ l1 then xX12_init_228 fu (nI 0) M else obi (xX12_place (nI 6) l1 M) fun v2 M1 => gd ((nI 14) + v2) 7460 (oml (mw M1 201 (ix ((nI 14) + v2)) (nI 8)) fun M3 => obi (xX12_place (nI 6) l1 M3) fun v5 M4 => gd ((nI 70) + v5) 7460 (oml (mw M4 201 (ix ((nI 70) + v5)) (nI 1)) fun M6 => obi (xX12_place (nI 6) l1 M6) fun v8 M7 => gd ((nI 126) + v8) 7460 (oml (mw M7 201 (ix ((nI 126) + v8)) (nI 1)) fun M9 => xX12_init_168  n (l1 + (nI 1)) M9))))
set_option maxRecDepth 20000 in
set_option maxHeartbeats 2000000 in
theorem tX12_init_168    : ∀ (n : Nat) (l1 : Int32) (M : j_M), J (ρ := j_M) yX12_init cX12_init 2 none 1 21 j_ev 168 [(0, .inr (17, 0, 200)), (1, .inl (l1))] [] M (xX12_init_168  n l1 M) := by
  intro n
  induction n with
  | zero => intros; exact J_none
  | succ n ih =>
    intro l1 M
    rw [xX12_init_168.eq_2]
    refine K_iload_n (q := 169) 1 dX12_init_168 rfl rfl rfl ?_
    refine K_bipush (q := 171) (v := nI 8) dX12_init_169 rfl rfl ?_
    refine K_icmp_ge (q := 174) (tgt := 226) dX12_init_171 rfl ?_ rfl ?_
    · refine K_iconst (q := 227) (v := nI 0) dX12_init_226 rfl rfl ?_
      refine K_istore_n (q := 228) (ll' := [(1, .inl ((nI 0))), (0, .inr (17, 0, 200))]) dX12_init_227 rfl (by decide) rfl rfl ?_
      exact J_sub [1, 0] (tX12_init_228 fu (nI 0) M) rfl
    · refine K_aload_n (q := 175) 0 dX12_init_174 rfl rfl rfl ?_
      refine K_getR (q := 178) (ci := 7) (a2 := 201) 0 dX12_init_175 fRX12_9 rfl rfl (by decide) rfl rfl ?_
      refine K_bipush (q := 180) (v := nI 14) dX12_init_178 rfl rfl ?_
      refine K_bipush (q := 182) (v := nI 6) dX12_init_180 rfl rfl ?_
      refine K_iload_n (q := 183) 1 dX12_init_182 rfl rfl rfl ?_
      refine K_csi (q := 186) [.inl ((nI 6)), .inl (l1)] dX12_init_183 cb_X12_place cvRX12_61 rfl (Nat.le_of_ble_eq_true rfl) ⟨by decide, by decide⟩ (Nat.le_of_ble_eq_true rfl) rfl (tX12_place (nI 6) l1 M) rfl (fun v2 M1 => ?_)
      refine K_iadd (q := 187) dX12_init_186 rfl ?_
      refine K_bipush (q := 189) (v := nI 8) dX12_init_187 rfl rfl ?_
      refine K_iast (q := 190) dX12_init_189 rfl (fun M3 => ?_)
      refine K_aload_n (q := 191) 0 dX12_init_190 rfl rfl rfl ?_
      refine K_getR (q := 194) (ci := 7) (a2 := 201) 0 dX12_init_191 fRX12_9 rfl rfl (by decide) rfl rfl ?_
      refine K_bipush (q := 196) (v := nI 70) dX12_init_194 rfl rfl ?_
      refine K_bipush (q := 198) (v := nI 6) dX12_init_196 rfl rfl ?_
      refine K_iload_n (q := 199) 1 dX12_init_198 rfl rfl rfl ?_
      refine K_csi (q := 202) [.inl ((nI 6)), .inl (l1)] dX12_init_199 cb_X12_place cvRX12_61 rfl (Nat.le_of_ble_eq_true rfl) ⟨by decide, by decide⟩ (Nat.le_of_ble_eq_true rfl) rfl (tX12_place (nI 6) l1 M3) rfl (fun v5 M4 => ?_)
      refine K_iadd (q := 203) dX12_init_202 rfl ?_
      refine K_iconst (q := 204) (v := nI 1) dX12_init_203 rfl rfl ?_
      refine K_iast (q := 205) dX12_init_204 rfl (fun M6 => ?_)
      refine K_aload_n (q := 206) 0 dX12_init_205 rfl rfl rfl ?_
      refine K_getR (q := 209) (ci := 7) (a2 := 201) 0 dX12_init_206 fRX12_9 rfl rfl (by decide) rfl rfl ?_
      refine K_bipush (q := 211) (v := nI 126) dX12_init_209 rfl rfl ?_
      refine K_bipush (q := 213) (v := nI 6) dX12_init_211 rfl rfl ?_
      refine K_iload_n (q := 214) 1 dX12_init_213 rfl rfl rfl ?_
      refine K_csi (q := 217) [.inl ((nI 6)), .inl (l1)] dX12_init_214 cb_X12_place cvRX12_61 rfl (Nat.le_of_ble_eq_true rfl) ⟨by decide, by decide⟩ (Nat.le_of_ble_eq_true rfl) rfl (tX12_place (nI 6) l1 M6) rfl (fun v8 M7 => ?_)
      refine K_iadd (q := 218) dX12_init_217 rfl ?_
      refine K_iconst (q := 219) (v := nI 1) dX12_init_218 rfl rfl ?_
      refine K_iast (q := 220) dX12_init_219 rfl (fun M9 => ?_)
      refine K_iinc (q := 223) (v := l1 + (nI 1)) (ll' := [(1, .inl (l1 + (nI 1))), (0, .inr (17, 0, 200))]) 1 dX12_init_220 rfl rfl (by decide) rfl rfl ?_
      refine J_goto (tgt := 168) dX12_init_223 rfl ?_
      exact J_sub [1, 0] (ih (l1 + (nI 1)) M9) rfl
def xX12_init   (M : j_M) : Option (j_M) := gd (nI 0) 7460 (oml (mw M 201 (ix (nI 0)) (nI 3)) fun M1 => gd (nI 1) 7460 (oml (mw M1 201 (ix (nI 1)) (nI 8)) fun M2 => gd (nI 2) 7460 (oml (mw M2 201 (ix (nI 2)) (nI 4)) fun M3 => gd (nI 4) 7460 (oml (mw M3 201 (ix (nI 4)) (nI 6)) fun M4 => xX12_init_168 fu (nI 0) M4))))
set_option maxRecDepth 20000 in
set_option maxHeartbeats 2000000 in
theorem tX12_init   (M : j_M) : J (ρ := j_M) yX12_init cX12_init 2 none 1 21 j_ev 136 [(0, .inr (17, 0, 200))] [] M (xX12_init   M) := by
  unfold xX12_init
  refine K_aload_n (q := 137) 0 dX12_init_136 rfl rfl rfl ?_
  refine K_getR (q := 140) (ci := 7) (a2 := 201) 0 dX12_init_137 fRX12_9 rfl rfl (by decide) rfl rfl ?_
  refine K_iconst (q := 141) (v := nI 0) dX12_init_140 rfl rfl ?_
  refine K_iconst (q := 142) (v := nI 3) dX12_init_141 rfl rfl ?_
  refine K_iast (q := 143) dX12_init_142 rfl (fun M1 => ?_)
  refine K_aload_n (q := 144) 0 dX12_init_143 rfl rfl rfl ?_
  refine K_getR (q := 147) (ci := 7) (a2 := 201) 0 dX12_init_144 fRX12_9 rfl rfl (by decide) rfl rfl ?_
  refine K_iconst (q := 148) (v := nI 1) dX12_init_147 rfl rfl ?_
  refine K_bipush (q := 150) (v := nI 8) dX12_init_148 rfl rfl ?_
  refine K_iast (q := 151) dX12_init_150 rfl (fun M2 => ?_)
  refine K_aload_n (q := 152) 0 dX12_init_151 rfl rfl rfl ?_
  refine K_getR (q := 155) (ci := 7) (a2 := 201) 0 dX12_init_152 fRX12_9 rfl rfl (by decide) rfl rfl ?_
  refine K_iconst (q := 156) (v := nI 2) dX12_init_155 rfl rfl ?_
  refine K_iconst (q := 157) (v := nI 4) dX12_init_156 rfl rfl ?_
  refine K_iast (q := 158) dX12_init_157 rfl (fun M3 => ?_)
  refine K_aload_n (q := 159) 0 dX12_init_158 rfl rfl rfl ?_
  refine K_getR (q := 162) (ci := 7) (a2 := 201) 0 dX12_init_159 fRX12_9 rfl rfl (by decide) rfl rfl ?_
  refine K_iconst (q := 163) (v := nI 4) dX12_init_162 rfl rfl ?_
  refine K_bipush (q := 165) (v := nI 6) dX12_init_163 rfl rfl ?_
  refine K_iast (q := 166) dX12_init_165 rfl (fun M4 => ?_)
  refine K_iconst (q := 167) (v := nI 0) dX12_init_166 rfl rfl ?_
  refine K_istore_n (q := 168) (ll' := [(1, .inl ((nI 0))), (0, .inr (17, 0, 200))]) dX12_init_167 rfl (by decide) rfl rfl ?_
  exact J_sub [1, 0] (tX12_init_168 fu (nI 0) M4) rfl
