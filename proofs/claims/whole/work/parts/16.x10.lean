theorem fRX10_47 : j_F RX10 47 0 8 := ⟨RX1, TX1, 15, rfl, by decide, ws_in0, j_in 239 (by decide +kernel) (by decide +kernel)⟩
theorem ws_in5 : ∀ w ∈ u_ws RX10 TX10 17, w ∈ j_ws := j_in_r _ [984, 986, 988, 990, 992, 994, 996, 998, 1000, 1002, 1004, 1006, 1008, 1010, 1012, 1014, 1016] (by decide +kernel) (by decide +kernel)
theorem fRX10_81 : j_F RX10 81 5 15 := ⟨RX10, TX10, 17, rfl, by decide, ws_in5, j_in 982 (by decide +kernel) (by decide +kernel)⟩
theorem fRX10_100 : j_F RX10 100 0 1 := ⟨RX1, TX1, 15, rfl, by decide, ws_in0, j_in 226 (by decide +kernel) (by decide +kernel)⟩
theorem fRX10_44 : j_F RX10 44 0 2 := ⟨RX1, TX1, 15, rfl, by decide, ws_in0, j_in 228 (by decide +kernel) (by decide +kernel)⟩
theorem fRX10_23 : j_F RX10 23 5 3 := ⟨RX10, TX10, 17, rfl, by decide, ws_in5, j_in 970 (by decide +kernel) (by decide +kernel)⟩
theorem fRX10_20 : j_F RX10 20 5 2 := ⟨RX10, TX10, 17, rfl, by decide, ws_in5, j_in 969 (by decide +kernel) (by decide +kernel)⟩
theorem fRX10_17 : j_F RX10 17 5 1 := ⟨RX10, TX10, 17, rfl, by decide, ws_in5, j_in 968 (by decide +kernel) (by decide +kernel)⟩
theorem cb_X10_sort : j_CB yX10_sort cX10_sort 5 none 2 := ⟨by decide +kernel, j_in 1025 (by decide +kernel) (by decide +kernel), j_in 126 (by decide +kernel) (by decide +kernel), by decide +kernel, by decide +kernel, by decide +kernel⟩
theorem cvRX10_51 : j_CS RX10 51 yX10_sort := ⟨Or.inl (j_in 1023 (by decide +kernel) (by decide +kernel)), j_in 1024 (by decide +kernel) (by decide +kernel)⟩
theorem cb_X10_hash : j_CB yX10_hash cX10_hash 4 (some .int) 1 := ⟨by decide +kernel, j_in 1042 (by decide +kernel) (by decide +kernel), j_in 126 (by decide +kernel) (by decide +kernel), by decide +kernel, by decide +kernel, by decide +kernel⟩
theorem cvRX10_111 : j_CV RX10 111 yX10_hash := ⟨Or.inl (j_in 1039 (by decide +kernel) (by decide +kernel)), j_in 1041 (by decide +kernel) (by decide +kernel), j_in 18 (by decide +kernel) (by decide +kernel)⟩
theorem fRX10_77 : j_F RX10 77 5 16 := ⟨RX10, TX10, 17, rfl, by decide, ws_in5, j_in 983 (by decide +kernel) (by decide +kernel)⟩
theorem fp_5_16 : j_FP 5 16 .boolean := ⟨RX10, TX10, 17, tyX10, rfl, tyX10_ok, nmX10, rfl, by decide +kernel⟩
theorem fRX10_29 : j_F RX10 29 5 5 := ⟨RX10, TX10, 17, rfl, by decide, ws_in5, j_in 972 (by decide +kernel) (by decide +kernel)⟩
theorem cb_X10_isState : j_CB yX10_isState cX10_isState 5 (some .boolean) 2 := ⟨by decide +kernel, j_in 1029 (by decide +kernel) (by decide +kernel), j_in 126 (by decide +kernel) (by decide +kernel), by decide +kernel, by decide +kernel, by decide +kernel⟩
theorem cvRX10_70 : j_CV RX10 70 yX10_isState := ⟨Or.inl (j_in 1026 (by decide +kernel) (by decide +kernel)), j_in 1028 (by decide +kernel) (by decide +kernel), j_in 16 (by decide +kernel) (by decide +kernel)⟩
theorem fRX10_55 : j_F RX10 55 5 10 := ⟨RX10, TX10, 17, rfl, by decide, ws_in5, j_in 977 (by decide +kernel) (by decide +kernel)⟩
theorem fRX10_26 : j_F RX10 26 5 4 := ⟨RX10, TX10, 17, rfl, by decide, ws_in5, j_in 971 (by decide +kernel) (by decide +kernel)⟩
theorem fp_5_10 : j_FP 5 10 .int := ⟨RX10, TX10, 17, tyX10, rfl, tyX10_ok, nmX10, rfl, by decide +kernel⟩
theorem fRX10_35 : j_F RX10 35 5 7 := ⟨RX10, TX10, 17, rfl, by decide, ws_in5, j_in 974 (by decide +kernel) (by decide +kernel)⟩
theorem fRX10_74 : j_F RX10 74 5 11 := ⟨RX10, TX10, 17, rfl, by decide, ws_in5, j_in 978 (by decide +kernel) (by decide +kernel)⟩
theorem cvRX10_107 : j_CV RX10 107 yX1_deliverAt := ⟨Or.inl (j_in 1049 (by decide +kernel) (by decide +kernel)), j_in 566 (by decide +kernel) (by decide +kernel), j_in 567 (by decide +kernel) (by decide +kernel)⟩
theorem cb_X10_enter : j_CB yX10_enter cX10_enter 5 (some .int) 2 := ⟨by decide +kernel, j_in 1038 (by decide +kernel) (by decide +kernel), j_in 126 (by decide +kernel) (by decide +kernel), by decide +kernel, by decide +kernel, by decide +kernel⟩
theorem cvRX10_89 : j_CV RX10 89 yX10_enter := ⟨Or.inl (j_in 1035 (by decide +kernel) (by decide +kernel)), j_in 1037 (by decide +kernel) (by decide +kernel), j_in 17 (by decide +kernel) (by decide +kernel)⟩
theorem fRX10_32 : j_F RX10 32 5 6 := ⟨RX10, TX10, 17, rfl, by decide, ws_in5, j_in 973 (by decide +kernel) (by decide +kernel)⟩
theorem fp_5_11 : j_FP 5 11 .int := ⟨RX10, TX10, 17, tyX10, rfl, tyX10_ok, nmX10, rfl, by decide +kernel⟩
theorem fRX10_38 : j_F RX10 38 5 8 := ⟨RX10, TX10, 17, rfl, by decide, ws_in5, j_in 975 (by decide +kernel) (by decide +kernel)⟩
theorem cvRX10_84 : j_CS RX10 84 yJ7_fill_53178 := ⟨Or.inl (j_in 1034 (by decide +kernel) (by decide +kernel)), j_in 222 (by decide +kernel) (by decide +kernel)⟩
theorem fRX10_41 : j_F RX10 41 5 9 := ⟨RX10, TX10, 17, rfl, by decide, ws_in5, j_in 976 (by decide +kernel) (by decide +kernel)⟩
theorem fRX10_61 : j_F RX10 61 5 12 := ⟨RX10, TX10, 17, rfl, by decide, ws_in5, j_in 979 (by decide +kernel) (by decide +kernel)⟩
theorem cvRX10_124 : j_CS RX10 124 yX1_blockOf := ⟨Or.inl (j_in 1058 (by decide +kernel) (by decide +kernel)), j_in 432 (by decide +kernel) (by decide +kernel)⟩
theorem fRX10_11 : j_F RX10 11 5 0 := ⟨RX10, TX10, 17, rfl, by decide, ws_in5, j_in 966 (by decide +kernel) (by decide +kernel)⟩
theorem cb_X10_canComeBack : j_CB yX10_canComeBack cX10_canComeBack 5 (some .boolean) 0 := ⟨by decide +kernel, j_in 1062 (by decide +kernel) (by decide +kernel), j_in 126 (by decide +kernel) (by decide +kernel), by decide +kernel, by decide +kernel, by decide +kernel⟩
theorem cvRX10_120 : j_CV RX10 120 yX10_canComeBack := ⟨Or.inl (j_in 1059 (by decide +kernel) (by decide +kernel)), j_in 1061 (by decide +kernel) (by decide +kernel), j_in 22 (by decide +kernel) (by decide +kernel)⟩
theorem cb_X10_hasMiss : j_CB yX10_hasMiss cX10_hasMiss 4 (some .boolean) 1 := ⟨by decide +kernel, j_in 1057 (by decide +kernel) (by decide +kernel), j_in 126 (by decide +kernel) (by decide +kernel), by decide +kernel, by decide +kernel, by decide +kernel⟩
theorem cvRX10_116 : j_CV RX10 116 yX10_hasMiss := ⟨Or.inl (j_in 1054 (by decide +kernel) (by decide +kernel)), j_in 1056 (by decide +kernel) (by decide +kernel), j_in 21 (by decide +kernel) (by decide +kernel)⟩
theorem fRX10_58 : j_F RX10 58 0 9 := ⟨RX1, TX1, 15, rfl, by decide, ws_in0, j_in 244 (by decide +kernel) (by decide +kernel)⟩
theorem fp_5_12 : j_FP 5 12 .int := ⟨RX10, TX10, 17, tyX10, rfl, tyX10_ok, nmX10, rfl, by decide +kernel⟩
theorem fRX10_62 : j_F RX10 62 0 10 := ⟨RX1, TX1, 15, rfl, by decide, ws_in0, j_in 247 (by decide +kernel) (by decide +kernel)⟩
theorem fRX10_65 : j_F RX10 65 5 13 := ⟨RX10, TX10, 17, rfl, by decide, ws_in5, j_in 980 (by decide +kernel) (by decide +kernel)⟩
theorem fp_5_13 : j_FP 5 13 .int := ⟨RX10, TX10, 17, tyX10, rfl, tyX10_ok, nmX10, rfl, by decide +kernel⟩
theorem fRX10_66 : j_F RX10 66 0 11 := ⟨RX1, TX1, 15, rfl, by decide, ws_in0, j_in 249 (by decide +kernel) (by decide +kernel)⟩
theorem fRX10_69 : j_F RX10 69 5 14 := ⟨RX10, TX10, 17, rfl, by decide, ws_in5, j_in 981 (by decide +kernel) (by decide +kernel)⟩
theorem fp_5_14 : j_FP 5 14 .int := ⟨RX10, TX10, 17, tyX10, rfl, tyX10_ok, nmX10, rfl, by decide +kernel⟩
theorem fp_5_15 : j_FP 5 15 .int := ⟨RX10, TX10, 17, tyX10, rfl, tyX10_ok, nmX10, rfl, by decide +kernel⟩
theorem cb_X10_expand : j_CB yX10_expand cX10_expand 6 none 2 := ⟨by decide +kernel, j_in 1048 (by decide +kernel) (by decide +kernel), j_in 126 (by decide +kernel) (by decide +kernel), by decide +kernel, by decide +kernel, by decide +kernel⟩
theorem cvRX10_93 : j_CV RX10 93 yX10_expand := ⟨Or.inl (j_in 1045 (by decide +kernel) (by decide +kernel)), j_in 1047 (by decide +kernel) (by decide +kernel), j_in 19 (by decide +kernel) (by decide +kernel)⟩
theorem cb_X10_sumUp : j_CB yX10_sumUp cX10_sumUp 5 none 0 := ⟨by decide +kernel, j_in 1053 (by decide +kernel) (by decide +kernel), j_in 126 (by decide +kernel) (by decide +kernel), by decide +kernel, by decide +kernel, by decide +kernel⟩
theorem cvRX10_97 : j_CV RX10 97 yX10_sumUp := ⟨Or.inl (j_in 1050 (by decide +kernel) (by decide +kernel)), j_in 1052 (by decide +kernel) (by decide +kernel), j_in 20 (by decide +kernel) (by decide +kernel)⟩
theorem dX10_hash_0 : decode cX10_hash 0 = .ok (.aload_n 1, 1) := by decide +kernel
theorem dX10_hash_1 : decode cX10_hash 1 = .ok (.getfield 47, 3) := by decide +kernel
theorem dX10_hash_4 : decode cX10_hash 4 = .ok (.istore_n 2, 1) := by decide +kernel
theorem dX10_hash_5 : decode cX10_hash 5 = .ok (.iconst 0, 1) := by decide +kernel
theorem dX10_hash_6 : decode cX10_hash 6 = .ok (.istore_n 3, 1) := by decide +kernel
theorem dX10_hash_7 : decode cX10_hash 7 = .ok (.iload_n 3, 1) := by decide +kernel
theorem dX10_hash_8 : decode cX10_hash 8 = .ok (.aload_n 0, 1) := by decide +kernel
theorem dX10_hash_9 : decode cX10_hash 9 = .ok (.getfield 81, 3) := by decide +kernel
theorem dX10_hash_12 : decode cX10_hash 12 = .ok (.if_icmp .ge 21, 3) := by decide +kernel
theorem dX10_hash_15 : decode cX10_hash 15 = .ok (.iload_n 2, 1) := by decide +kernel
theorem dX10_hash_16 : decode cX10_hash 16 = .ok (.bipush 31, 2) := by decide +kernel
theorem dX10_hash_18 : decode cX10_hash 18 = .ok (.imul, 1) := by decide +kernel
theorem dX10_hash_19 : decode cX10_hash 19 = .ok (.aload_n 1, 1) := by decide +kernel
theorem dX10_hash_20 : decode cX10_hash 20 = .ok (.getfield 100, 3) := by decide +kernel
theorem dX10_hash_23 : decode cX10_hash 23 = .ok (.iload_n 3, 1) := by decide +kernel
theorem dX10_hash_24 : decode cX10_hash 24 = .ok (.iaload, 1) := by decide +kernel
theorem dX10_hash_25 : decode cX10_hash 25 = .ok (.iadd, 1) := by decide +kernel
theorem dX10_hash_26 : decode cX10_hash 26 = .ok (.istore_n 2, 1) := by decide +kernel
theorem dX10_hash_27 : decode cX10_hash 27 = .ok (.iinc 3 1, 3) := by decide +kernel
theorem dX10_hash_30 : decode cX10_hash 30 = .ok (.goto (-23), 3) := by decide +kernel
theorem dX10_hash_33 : decode cX10_hash 33 = .ok (.iconst 0, 1) := by decide +kernel
theorem dX10_hash_34 : decode cX10_hash 34 = .ok (.istore_n 3, 1) := by decide +kernel
theorem dX10_hash_35 : decode cX10_hash 35 = .ok (.iload_n 3, 1) := by decide +kernel
theorem dX10_hash_36 : decode cX10_hash 36 = .ok (.aload_n 1, 1) := by decide +kernel
theorem dX10_hash_37 : decode cX10_hash 37 = .ok (.getfield 47, 3) := by decide +kernel
theorem dX10_hash_40 : decode cX10_hash 40 = .ok (.if_icmp .ge 21, 3) := by decide +kernel
theorem dX10_hash_43 : decode cX10_hash 43 = .ok (.iload_n 2, 1) := by decide +kernel
theorem dX10_hash_44 : decode cX10_hash 44 = .ok (.bipush 31, 2) := by decide +kernel
theorem dX10_hash_46 : decode cX10_hash 46 = .ok (.imul, 1) := by decide +kernel
theorem dX10_hash_47 : decode cX10_hash 47 = .ok (.aload_n 1, 1) := by decide +kernel
theorem dX10_hash_48 : decode cX10_hash 48 = .ok (.getfield 44, 3) := by decide +kernel
theorem dX10_hash_51 : decode cX10_hash 51 = .ok (.iload_n 3, 1) := by decide +kernel
theorem dX10_hash_52 : decode cX10_hash 52 = .ok (.iaload, 1) := by decide +kernel
theorem dX10_hash_53 : decode cX10_hash 53 = .ok (.iadd, 1) := by decide +kernel
theorem dX10_hash_54 : decode cX10_hash 54 = .ok (.istore_n 2, 1) := by decide +kernel
theorem dX10_hash_55 : decode cX10_hash 55 = .ok (.iinc 3 1, 3) := by decide +kernel
theorem dX10_hash_58 : decode cX10_hash 58 = .ok (.goto (-23), 3) := by decide +kernel
theorem dX10_hash_61 : decode cX10_hash 61 = .ok (.iload_n 2, 1) := by decide +kernel
theorem dX10_hash_62 : decode cX10_hash 62 = .ok (.iload_n 2, 1) := by decide +kernel
theorem dX10_hash_63 : decode cX10_hash 63 = .ok (.bipush 15, 2) := by decide +kernel
theorem dX10_hash_65 : decode cX10_hash 65 = .ok (.iushr, 1) := by decide +kernel
theorem dX10_hash_66 : decode cX10_hash 66 = .ok (.ixor, 1) := by decide +kernel
theorem dX10_hash_67 : decode cX10_hash 67 = .ok (.istore_n 2, 1) := by decide +kernel
theorem dX10_hash_68 : decode cX10_hash 68 = .ok (.iload_n 2, 1) := by decide +kernel
theorem dX10_hash_69 : decode cX10_hash 69 = .ok (.ldc 115, 2) := by decide +kernel
theorem dX10_hash_71 : decode cX10_hash 71 = .ok (.imul, 1) := by decide +kernel
theorem dX10_hash_72 : decode cX10_hash 72 = .ok (.istore_n 2, 1) := by decide +kernel
theorem dX10_hash_73 : decode cX10_hash 73 = .ok (.iload_n 2, 1) := by decide +kernel
theorem dX10_hash_74 : decode cX10_hash 74 = .ok (.iload_n 2, 1) := by decide +kernel
theorem dX10_hash_75 : decode cX10_hash 75 = .ok (.bipush 12, 2) := by decide +kernel
theorem dX10_hash_77 : decode cX10_hash 77 = .ok (.iushr, 1) := by decide +kernel
theorem dX10_hash_78 : decode cX10_hash 78 = .ok (.ixor, 1) := by decide +kernel
theorem dX10_hash_79 : decode cX10_hash 79 = .ok (.ireturn, 1) := by decide +kernel
def xX10_hash_35  (u1 : Nat) : Nat → Int32 → Int32 → j_M → Option (Int32 × j_M)
  | 0, _, _, _ => none
  | n + 1, l2, l3, M => oli (M u1 8) fun v1 => (if v1 ≤ l3 then some (((l2 ^^^ (us l2 (nI 15))) * (739982445 : Int32)) ^^^ (us ((l2 ^^^ (us l2 (nI 15))) * (739982445 : Int32)) (nI 12)), M) else gd l3 256 (oli (M (u1 + 2) (ix l3)) fun v2 => xX10_hash_35 u1 n ((l2 * (nI 31)) + v2) (l3 + (nI 1)) M))
set_option maxRecDepth 20000 in
set_option maxHeartbeats 2000000 in
theorem tX10_hash_35  (u1 : Nat)  : ∀ (n : Nat) (l2 : Int32) (l3 : Int32) (M : j_M), J (ρ := Int32 × j_M) yX10_hash cX10_hash 4 (some .int) 0 0 j_ei 35 [(1, .inr (10, 0, u1)), (2, .inl (l2)), (3, .inl (l3))] [] M (xX10_hash_35 u1 n l2 l3 M) := by
  intro n
  induction n with
  | zero => intros; exact J_none
  | succ n ih =>
    intro l2 l3 M
    rw [xX10_hash_35.eq_2]
    refine K_iload_n (q := 36) 2 dX10_hash_35 rfl rfl rfl ?_
    refine K_aload_n (q := 37) 0 dX10_hash_36 rfl rfl rfl ?_
    refine K_getI (q := 40) (ci := 0) 8 dX10_hash_37 fRX10_47 rfl rfl rfl (fun v1 => ?_)
    refine K_icmp_ge (q := 43) (tgt := 61) dX10_hash_40 rfl ?_ rfl ?_
    · refine K_iload_n (q := 62) 1 dX10_hash_61 rfl rfl rfl ?_
      refine K_iload_n (q := 63) 1 dX10_hash_62 rfl rfl rfl ?_
      refine K_bipush (q := 65) (v := nI 15) dX10_hash_63 rfl rfl ?_
      refine K_iushr (q := 66) dX10_hash_65 rfl ?_
      refine K_ixor (q := 67) dX10_hash_66 rfl ?_
      refine K_istore_n (q := 68) (ll' := [(2, .inl (l2 ^^^ (us l2 (nI 15)))), (1, .inr (10, 0, u1)), (3, .inl (l3))]) dX10_hash_67 rfl (by decide) rfl rfl ?_
      refine K_iload_n (q := 69) 0 dX10_hash_68 rfl rfl rfl ?_
      refine K_ldc (q := 71) (v := 739982445) dX10_hash_69 (j_in 1043 (by decide +kernel) (by decide +kernel)) rfl ?_
      refine K_imul (q := 72) dX10_hash_71 rfl ?_
      refine K_istore_n (q := 73) (ll' := [(2, .inl ((l2 ^^^ (us l2 (nI 15))) * (739982445 : Int32))), (1, .inr (10, 0, u1)), (3, .inl (l3))]) dX10_hash_72 rfl (by decide) rfl rfl ?_
      refine K_iload_n (q := 74) 0 dX10_hash_73 rfl rfl rfl ?_
      refine K_iload_n (q := 75) 0 dX10_hash_74 rfl rfl rfl ?_
      refine K_bipush (q := 77) (v := nI 12) dX10_hash_75 rfl rfl ?_
      refine K_iushr (q := 78) dX10_hash_77 rfl ?_
      refine K_ixor (q := 79) dX10_hash_78 rfl ?_
      exact J_iret dX10_hash_79
    · refine K_iload_n (q := 44) 1 dX10_hash_43 rfl rfl rfl ?_
      refine K_bipush (q := 46) (v := nI 31) dX10_hash_44 rfl rfl ?_
      refine K_imul (q := 47) dX10_hash_46 rfl ?_
      refine K_aload_n (q := 48) 0 dX10_hash_47 rfl rfl rfl ?_
      refine K_getR (q := 51) (ci := 0) (a2 := u1 + 2) 2 dX10_hash_48 fRX10_44 rfl rfl (by decide) rfl rfl ?_
      refine K_iload_n (q := 52) 2 dX10_hash_51 rfl rfl rfl ?_
      refine K_iald (q := 53) dX10_hash_52 rfl (fun v2 => ?_)
      refine K_iadd (q := 54) dX10_hash_53 rfl ?_
      refine K_istore_n (q := 55) (ll' := [(2, .inl ((l2 * (nI 31)) + v2)), (1, .inr (10, 0, u1)), (3, .inl (l3))]) dX10_hash_54 rfl (by decide) rfl rfl ?_
      refine K_iinc (q := 58) (v := l3 + (nI 1)) (ll' := [(3, .inl (l3 + (nI 1))), (2, .inl ((l2 * (nI 31)) + v2)), (1, .inr (10, 0, u1))]) 2 dX10_hash_55 rfl rfl (by decide) rfl rfl ?_
      refine J_goto (tgt := 35) dX10_hash_58 rfl ?_
      exact J_sub [2, 1, 0] (ih ((l2 * (nI 31)) + v2) (l3 + (nI 1)) M) rfl
def xX10_hash_7  (u1 : Nat) : Nat → Int32 → Int32 → j_M → Option (Int32 × j_M)
  | 0, _, _, _ => none
  | n + 1, l2, l3, M => oli (M 100 15) fun v1 => (if v1 ≤ l3 then xX10_hash_35 u1 fu l2 (nI 0) M else gd l3 112 (oli (M (u1 + 1) (ix l3)) fun v2 => xX10_hash_7 u1 n ((l2 * (nI 31)) + v2) (l3 + (nI 1)) M))
set_option maxRecDepth 20000 in
set_option maxHeartbeats 2000000 in
theorem tX10_hash_7  (u1 : Nat)  : ∀ (n : Nat) (l2 : Int32) (l3 : Int32) (M : j_M), J (ρ := Int32 × j_M) yX10_hash cX10_hash 4 (some .int) 0 0 j_ei 7 [(0, .inr (15, 0, 100)), (1, .inr (10, 0, u1)), (2, .inl (l2)), (3, .inl (l3))] [] M (xX10_hash_7 u1 n l2 l3 M) := by
  intro n
  induction n with
  | zero => intros; exact J_none
  | succ n ih =>
    intro l2 l3 M
    rw [xX10_hash_7.eq_2]
    refine K_iload_n (q := 8) 3 dX10_hash_7 rfl rfl rfl ?_
    refine K_aload_n (q := 9) 0 dX10_hash_8 rfl rfl rfl ?_
    refine K_getI (q := 12) (ci := 5) 15 dX10_hash_9 fRX10_81 rfl rfl rfl (fun v1 => ?_)
    refine K_icmp_ge (q := 15) (tgt := 33) dX10_hash_12 rfl ?_ rfl ?_
    · refine K_iconst (q := 34) (v := nI 0) dX10_hash_33 rfl rfl ?_
      refine K_istore_n (q := 35) (ll' := [(3, .inl ((nI 0))), (0, .inr (15, 0, 100)), (1, .inr (10, 0, u1)), (2, .inl (l2))]) dX10_hash_34 rfl (by decide) rfl rfl ?_
      exact J_sub [2, 3, 0] (tX10_hash_35 u1 fu l2 (nI 0) M) rfl
    · refine K_iload_n (q := 16) 2 dX10_hash_15 rfl rfl rfl ?_
      refine K_bipush (q := 18) (v := nI 31) dX10_hash_16 rfl rfl ?_
      refine K_imul (q := 19) dX10_hash_18 rfl ?_
      refine K_aload_n (q := 20) 1 dX10_hash_19 rfl rfl rfl ?_
      refine K_getR (q := 23) (ci := 0) (a2 := u1 + 1) 1 dX10_hash_20 fRX10_100 rfl rfl (by decide) rfl rfl ?_
      refine K_iload_n (q := 24) 3 dX10_hash_23 rfl rfl rfl ?_
      refine K_iald (q := 25) dX10_hash_24 rfl (fun v2 => ?_)
      refine K_iadd (q := 26) dX10_hash_25 rfl ?_
      refine K_istore_n (q := 27) (ll' := [(2, .inl ((l2 * (nI 31)) + v2)), (0, .inr (15, 0, 100)), (1, .inr (10, 0, u1)), (3, .inl (l3))]) dX10_hash_26 rfl (by decide) rfl rfl ?_
      refine K_iinc (q := 30) (v := l3 + (nI 1)) (ll' := [(3, .inl (l3 + (nI 1))), (2, .inl ((l2 * (nI 31)) + v2)), (0, .inr (15, 0, 100)), (1, .inr (10, 0, u1))]) 3 dX10_hash_27 rfl rfl (by decide) rfl rfl ?_
      refine J_goto (tgt := 7) dX10_hash_30 rfl ?_
      exact J_sub [2, 3, 1, 0] (ih ((l2 * (nI 31)) + v2) (l3 + (nI 1)) M) rfl
def xX10_hash (u1 : Nat)  (M : j_M) : Option (Int32 × j_M) := oli (M u1 8) fun v1 => xX10_hash_7 u1 fu v1 (nI 0) M
set_option maxRecDepth 20000 in
set_option maxHeartbeats 2000000 in
theorem tX10_hash (u1 : Nat)  (M : j_M) : J (ρ := Int32 × j_M) yX10_hash cX10_hash 4 (some .int) 0 0 j_ei 0 [(0, .inr (15, 0, 100)), (1, .inr (10, 0, u1))] [] M (xX10_hash u1  M) := by
  unfold xX10_hash
  refine K_aload_n (q := 1) 1 dX10_hash_0 rfl rfl rfl ?_
  refine K_getI (q := 4) (ci := 0) 8 dX10_hash_1 fRX10_47 rfl rfl rfl (fun v1 => ?_)
  refine K_istore_n (q := 5) (ll' := [(2, .inl (v1)), (0, .inr (15, 0, 100)), (1, .inr (10, 0, u1))]) dX10_hash_4 rfl (by decide) rfl rfl ?_
  refine K_iconst (q := 6) (v := nI 0) dX10_hash_5 rfl rfl ?_
  refine K_istore_n (q := 7) (ll' := [(3, .inl ((nI 0))), (2, .inl (v1)), (0, .inr (15, 0, 100)), (1, .inr (10, 0, u1))]) dX10_hash_6 rfl (by decide) rfl rfl ?_
  exact J_sub [2, 3, 1, 0] (tX10_hash_7 u1 fu v1 (nI 0) M) rfl
theorem dX10_isState_0 : decode cX10_isState 0 = .ok (.aload_n 0, 1) := by decide +kernel
theorem dX10_isState_1 : decode cX10_isState 1 = .ok (.getfield 23, 3) := by decide +kernel
theorem dX10_isState_4 : decode cX10_isState 4 = .ok (.iload_n 1, 1) := by decide +kernel
theorem dX10_isState_5 : decode cX10_isState 5 = .ok (.iaload, 1) := by decide +kernel
theorem dX10_isState_6 : decode cX10_isState 6 = .ok (.aload_n 2, 1) := by decide +kernel
theorem dX10_isState_7 : decode cX10_isState 7 = .ok (.getfield 47, 3) := by decide +kernel
theorem dX10_isState_10 : decode cX10_isState 10 = .ok (.if_icmp .eq 5, 3) := by decide +kernel
theorem dX10_isState_13 : decode cX10_isState 13 = .ok (.iconst 0, 1) := by decide +kernel
theorem dX10_isState_14 : decode cX10_isState 14 = .ok (.ireturn, 1) := by decide +kernel
theorem dX10_isState_15 : decode cX10_isState 15 = .ok (.iload_n 1, 1) := by decide +kernel
theorem dX10_isState_16 : decode cX10_isState 16 = .ok (.bipush 24, 2) := by decide +kernel
theorem dX10_isState_18 : decode cX10_isState 18 = .ok (.imul, 1) := by decide +kernel
theorem dX10_isState_19 : decode cX10_isState 19 = .ok (.istore_n 3, 1) := by decide +kernel
theorem dX10_isState_20 : decode cX10_isState 20 = .ok (.iconst 0, 1) := by decide +kernel
theorem dX10_isState_21 : decode cX10_isState 21 = .ok (.istore 4, 2) := by decide +kernel
theorem dX10_isState_23 : decode cX10_isState 23 = .ok (.iload 4, 2) := by decide +kernel
theorem dX10_isState_25 : decode cX10_isState 25 = .ok (.aload_n 2, 1) := by decide +kernel
theorem dX10_isState_26 : decode cX10_isState 26 = .ok (.getfield 47, 3) := by decide +kernel
theorem dX10_isState_29 : decode cX10_isState 29 = .ok (.if_icmp .ge 30, 3) := by decide +kernel
theorem dX10_isState_32 : decode cX10_isState 32 = .ok (.aload_n 0, 1) := by decide +kernel
theorem dX10_isState_33 : decode cX10_isState 33 = .ok (.getfield 20, 3) := by decide +kernel
theorem dX10_isState_36 : decode cX10_isState 36 = .ok (.iload_n 3, 1) := by decide +kernel
theorem dX10_isState_37 : decode cX10_isState 37 = .ok (.iload 4, 2) := by decide +kernel
theorem dX10_isState_39 : decode cX10_isState 39 = .ok (.iadd, 1) := by decide +kernel
theorem dX10_isState_40 : decode cX10_isState 40 = .ok (.iaload, 1) := by decide +kernel
theorem dX10_isState_41 : decode cX10_isState 41 = .ok (.aload_n 2, 1) := by decide +kernel
theorem dX10_isState_42 : decode cX10_isState 42 = .ok (.getfield 44, 3) := by decide +kernel
theorem dX10_isState_45 : decode cX10_isState 45 = .ok (.iload 4, 2) := by decide +kernel
theorem dX10_isState_47 : decode cX10_isState 47 = .ok (.iaload, 1) := by decide +kernel
theorem dX10_isState_48 : decode cX10_isState 48 = .ok (.if_icmp .eq 5, 3) := by decide +kernel
theorem dX10_isState_51 : decode cX10_isState 51 = .ok (.iconst 0, 1) := by decide +kernel
theorem dX10_isState_52 : decode cX10_isState 52 = .ok (.ireturn, 1) := by decide +kernel
theorem dX10_isState_53 : decode cX10_isState 53 = .ok (.iinc 4 1, 3) := by decide +kernel
theorem dX10_isState_56 : decode cX10_isState 56 = .ok (.goto (-33), 3) := by decide +kernel
theorem dX10_isState_59 : decode cX10_isState 59 = .ok (.iload_n 1, 1) := by decide +kernel
theorem dX10_isState_60 : decode cX10_isState 60 = .ok (.bipush 112, 2) := by decide +kernel
theorem dX10_isState_62 : decode cX10_isState 62 = .ok (.imul, 1) := by decide +kernel
theorem dX10_isState_63 : decode cX10_isState 63 = .ok (.istore_n 3, 1) := by decide +kernel
theorem dX10_isState_64 : decode cX10_isState 64 = .ok (.iconst 0, 1) := by decide +kernel
theorem dX10_isState_65 : decode cX10_isState 65 = .ok (.istore 4, 2) := by decide +kernel
theorem dX10_isState_67 : decode cX10_isState 67 = .ok (.iload 4, 2) := by decide +kernel
theorem dX10_isState_69 : decode cX10_isState 69 = .ok (.aload_n 0, 1) := by decide +kernel
theorem dX10_isState_70 : decode cX10_isState 70 = .ok (.getfield 81, 3) := by decide +kernel
theorem dX10_isState_73 : decode cX10_isState 73 = .ok (.if_icmp .ge 30, 3) := by decide +kernel
theorem dX10_isState_76 : decode cX10_isState 76 = .ok (.aload_n 0, 1) := by decide +kernel
theorem dX10_isState_77 : decode cX10_isState 77 = .ok (.getfield 17, 3) := by decide +kernel
theorem dX10_isState_80 : decode cX10_isState 80 = .ok (.iload_n 3, 1) := by decide +kernel
theorem dX10_isState_81 : decode cX10_isState 81 = .ok (.iload 4, 2) := by decide +kernel
theorem dX10_isState_83 : decode cX10_isState 83 = .ok (.iadd, 1) := by decide +kernel
theorem dX10_isState_84 : decode cX10_isState 84 = .ok (.iaload, 1) := by decide +kernel
theorem dX10_isState_85 : decode cX10_isState 85 = .ok (.aload_n 2, 1) := by decide +kernel
theorem dX10_isState_86 : decode cX10_isState 86 = .ok (.getfield 100, 3) := by decide +kernel
theorem dX10_isState_89 : decode cX10_isState 89 = .ok (.iload 4, 2) := by decide +kernel
theorem dX10_isState_91 : decode cX10_isState 91 = .ok (.iaload, 1) := by decide +kernel
theorem dX10_isState_92 : decode cX10_isState 92 = .ok (.if_icmp .eq 5, 3) := by decide +kernel
theorem dX10_isState_95 : decode cX10_isState 95 = .ok (.iconst 0, 1) := by decide +kernel
theorem dX10_isState_96 : decode cX10_isState 96 = .ok (.ireturn, 1) := by decide +kernel
theorem dX10_isState_97 : decode cX10_isState 97 = .ok (.iinc 4 1, 3) := by decide +kernel
theorem dX10_isState_100 : decode cX10_isState 100 = .ok (.goto (-33), 3) := by decide +kernel
theorem dX10_isState_103 : decode cX10_isState 103 = .ok (.iconst 1, 1) := by decide +kernel
theorem dX10_isState_104 : decode cX10_isState 104 = .ok (.ireturn, 1) := by decide +kernel
def xX10_isState_67  (u2 : Nat) : Nat → Int32 → Int32 → j_M → Option (Int32 × j_M)
  | 0, _, _, _ => none
  | n + 1, l3, l4, M => oli (M 100 15) fun v1 => (if v1 ≤ l4 then some ((nI 1), M) else gd (l3 + l4) 28000 (oli (M 102 (ix (l3 + l4))) fun v2 => gd l4 112 (oli (M (u2 + 1) (ix l4)) fun v3 => (if v2 = v3 then xX10_isState_67 u2 n l3 (l4 + (nI 1)) M else some ((nI 0), M)))))
set_option maxRecDepth 20000 in
set_option maxHeartbeats 2000000 in
theorem tX10_isState_67  (u2 : Nat)  : ∀ (n : Nat) (l3 : Int32) (l4 : Int32) (M : j_M), J (ρ := Int32 × j_M) yX10_isState cX10_isState 5 (some .boolean) 0 0 j_ei 67 [(0, .inr (15, 0, 100)), (2, .inr (10, 0, u2)), (3, .inl (l3)), (4, .inl (l4))] [] M (xX10_isState_67 u2 n l3 l4 M) := by
  intro n
  induction n with
  | zero => intros; exact J_none
  | succ n ih =>
    intro l3 l4 M
    rw [xX10_isState_67.eq_2]
    refine K_iload (q := 69) 3 dX10_isState_67 rfl rfl ?_
    refine K_aload_n (q := 70) 0 dX10_isState_69 rfl rfl rfl ?_
    refine K_getI (q := 73) (ci := 5) 15 dX10_isState_70 fRX10_81 rfl rfl rfl (fun v1 => ?_)
    refine K_icmp_ge (q := 76) (tgt := 103) dX10_isState_73 rfl ?_ rfl ?_
    · refine K_iconst (q := 104) (v := nI 1) dX10_isState_103 rfl rfl ?_
      exact J_zret dX10_isState_104 (by decide)
    · refine K_aload_n (q := 77) 0 dX10_isState_76 rfl rfl rfl ?_
      refine K_getR (q := 80) (ci := 5) (a2 := 102) 1 dX10_isState_77 fRX10_17 rfl rfl (by decide) rfl rfl ?_
      refine K_iload_n (q := 81) 2 dX10_isState_80 rfl rfl rfl ?_
      refine K_iload (q := 83) 3 dX10_isState_81 rfl rfl ?_
      refine K_iadd (q := 84) dX10_isState_83 rfl ?_
      refine K_iald (q := 85) dX10_isState_84 rfl (fun v2 => ?_)
      refine K_aload_n (q := 86) 1 dX10_isState_85 rfl rfl rfl ?_
      refine K_getR (q := 89) (ci := 0) (a2 := u2 + 1) 1 dX10_isState_86 fRX10_100 rfl rfl (by decide) rfl rfl ?_
      refine K_iload (q := 91) 3 dX10_isState_89 rfl rfl ?_
      refine K_iald (q := 92) dX10_isState_91 rfl (fun v3 => ?_)
      refine K_icmp_eq (q := 95) (tgt := 97) dX10_isState_92 rfl ?_ rfl ?_
      · refine K_iinc (q := 100) (v := l4 + (nI 1)) (ll' := [(4, .inl (l4 + (nI 1))), (0, .inr (15, 0, 100)), (2, .inr (10, 0, u2)), (3, .inl (l3))]) 3 dX10_isState_97 rfl rfl (by decide) rfl rfl ?_
        refine J_goto (tgt := 67) dX10_isState_100 rfl ?_
        exact J_sub [1, 2, 3, 0] (ih l3 (l4 + (nI 1)) M) rfl
      · refine K_iconst (q := 96) (v := nI 0) dX10_isState_95 rfl rfl ?_
        exact J_zret dX10_isState_96 (by decide)
def xX10_isState_23  (u2 : Nat) : Nat → Int32 → Int32 → Int32 → j_M → Option (Int32 × j_M)
  | 0, _, _, _, _ => none
  | n + 1, l1, l3, l4, M => oli (M u2 8) fun v1 => (if v1 ≤ l4 then xX10_isState_67 u2 fu (l1 * (nI 112)) (nI 0) M else gd (l3 + l4) 6000 (oli (M 103 (ix (l3 + l4))) fun v2 => gd l4 256 (oli (M (u2 + 2) (ix l4)) fun v3 => (if v2 = v3 then xX10_isState_23 u2 n l1 l3 (l4 + (nI 1)) M else some ((nI 0), M)))))
set_option maxRecDepth 20000 in
set_option maxHeartbeats 2000000 in
theorem tX10_isState_23  (u2 : Nat)  : ∀ (n : Nat) (l1 : Int32) (l3 : Int32) (l4 : Int32) (M : j_M), J (ρ := Int32 × j_M) yX10_isState cX10_isState 5 (some .boolean) 0 0 j_ei 23 [(0, .inr (15, 0, 100)), (1, .inl (l1)), (2, .inr (10, 0, u2)), (3, .inl (l3)), (4, .inl (l4))] [] M (xX10_isState_23 u2 n l1 l3 l4 M) := by
  intro n
  induction n with
  | zero => intros; exact J_none
  | succ n ih =>
    intro l1 l3 l4 M
    rw [xX10_isState_23.eq_2]
    refine K_iload (q := 25) 4 dX10_isState_23 rfl rfl ?_
    refine K_aload_n (q := 26) 2 dX10_isState_25 rfl rfl rfl ?_
    refine K_getI (q := 29) (ci := 0) 8 dX10_isState_26 fRX10_47 rfl rfl rfl (fun v1 => ?_)
    refine K_icmp_ge (q := 32) (tgt := 59) dX10_isState_29 rfl ?_ rfl ?_
    · refine K_iload_n (q := 60) 1 dX10_isState_59 rfl rfl rfl ?_
      refine K_bipush (q := 62) (v := nI 112) dX10_isState_60 rfl rfl ?_
      refine K_imul (q := 63) dX10_isState_62 rfl ?_
      refine K_istore_n (q := 64) (ll' := [(3, .inl (l1 * (nI 112))), (0, .inr (15, 0, 100)), (1, .inl (l1)), (2, .inr (10, 0, u2)), (4, .inl (l4))]) dX10_isState_63 rfl (by decide) rfl rfl ?_
      refine K_iconst (q := 65) (v := nI 0) dX10_isState_64 rfl rfl ?_
      refine K_istore (q := 67) (ll' := [(4, .inl ((nI 0))), (3, .inl (l1 * (nI 112))), (0, .inr (15, 0, 100)), (1, .inl (l1)), (2, .inr (10, 0, u2))]) dX10_isState_65 (by decide) rfl rfl ?_
      exact J_sub [2, 4, 1, 0] (tX10_isState_67 u2 fu (l1 * (nI 112)) (nI 0) M) rfl
    · refine K_aload_n (q := 33) 0 dX10_isState_32 rfl rfl rfl ?_
      refine K_getR (q := 36) (ci := 5) (a2 := 103) 2 dX10_isState_33 fRX10_20 rfl rfl (by decide) rfl rfl ?_
      refine K_iload_n (q := 37) 3 dX10_isState_36 rfl rfl rfl ?_
      refine K_iload (q := 39) 4 dX10_isState_37 rfl rfl ?_
      refine K_iadd (q := 40) dX10_isState_39 rfl ?_
      refine K_iald (q := 41) dX10_isState_40 rfl (fun v2 => ?_)
      refine K_aload_n (q := 42) 2 dX10_isState_41 rfl rfl rfl ?_
      refine K_getR (q := 45) (ci := 0) (a2 := u2 + 2) 2 dX10_isState_42 fRX10_44 rfl rfl (by decide) rfl rfl ?_
      refine K_iload (q := 47) 4 dX10_isState_45 rfl rfl ?_
      refine K_iald (q := 48) dX10_isState_47 rfl (fun v3 => ?_)
      refine K_icmp_eq (q := 51) (tgt := 53) dX10_isState_48 rfl ?_ rfl ?_
      · refine K_iinc (q := 56) (v := l4 + (nI 1)) (ll' := [(4, .inl (l4 + (nI 1))), (0, .inr (15, 0, 100)), (1, .inl (l1)), (2, .inr (10, 0, u2)), (3, .inl (l3))]) 4 dX10_isState_53 rfl rfl (by decide) rfl rfl ?_
        refine J_goto (tgt := 23) dX10_isState_56 rfl ?_
        exact J_sub [1, 2, 3, 4, 0] (ih l1 l3 (l4 + (nI 1)) M) rfl
      · refine K_iconst (q := 52) (v := nI 0) dX10_isState_51 rfl rfl ?_
        exact J_zret dX10_isState_52 (by decide)
def xX10_isState (u2 : Nat) (l1 : Int32) (M : j_M) : Option (Int32 × j_M) := gd l1 250 (oli (M 104 (ix l1)) fun v1 => oli (M u2 8) fun v2 => (if v1 = v2 then xX10_isState_23 u2 fu l1 (l1 * (nI 24)) (nI 0) M else some ((nI 0), M)))
set_option maxRecDepth 20000 in
set_option maxHeartbeats 2000000 in
theorem tX10_isState (u2 : Nat) (l1 : Int32) (M : j_M) : J (ρ := Int32 × j_M) yX10_isState cX10_isState 5 (some .boolean) 0 0 j_ei 0 [(0, .inr (15, 0, 100)), (1, .inl (l1)), (2, .inr (10, 0, u2))] [] M (xX10_isState u2 l1 M) := by
  unfold xX10_isState
  refine K_aload_n (q := 1) 0 dX10_isState_0 rfl rfl rfl ?_
  refine K_getR (q := 4) (ci := 5) (a2 := 104) 3 dX10_isState_1 fRX10_23 rfl rfl (by decide) rfl rfl ?_
  refine K_iload_n (q := 5) 1 dX10_isState_4 rfl rfl rfl ?_
  refine K_iald (q := 6) dX10_isState_5 rfl (fun v1 => ?_)
  refine K_aload_n (q := 7) 2 dX10_isState_6 rfl rfl rfl ?_
  refine K_getI (q := 10) (ci := 0) 8 dX10_isState_7 fRX10_47 rfl rfl rfl (fun v2 => ?_)
  refine K_icmp_eq (q := 13) (tgt := 15) dX10_isState_10 rfl ?_ rfl ?_
  · refine K_iload_n (q := 16) 1 dX10_isState_15 rfl rfl rfl ?_
    refine K_bipush (q := 18) (v := nI 24) dX10_isState_16 rfl rfl ?_
    refine K_imul (q := 19) dX10_isState_18 rfl ?_
    refine K_istore_n (q := 20) (ll' := [(3, .inl (l1 * (nI 24))), (0, .inr (15, 0, 100)), (1, .inl (l1)), (2, .inr (10, 0, u2))]) dX10_isState_19 rfl (by decide) rfl rfl ?_
    refine K_iconst (q := 21) (v := nI 0) dX10_isState_20 rfl rfl ?_
    refine K_istore (q := 23) (ll' := [(4, .inl ((nI 0))), (3, .inl (l1 * (nI 24))), (0, .inr (15, 0, 100)), (1, .inl (l1)), (2, .inr (10, 0, u2))]) dX10_isState_21 (by decide) rfl rfl ?_
    exact J_sub [2, 3, 4, 1, 0] (tX10_isState_23 u2 fu l1 (l1 * (nI 24)) (nI 0) M) rfl
  · refine K_iconst (q := 14) (v := nI 0) dX10_isState_13 rfl rfl ?_
    exact J_zret dX10_isState_14 (by decide)
theorem dX10_sort_0 : decode cX10_sort 0 = .ok (.iconst 1, 1) := by decide +kernel
theorem dX10_sort_1 : decode cX10_sort 1 = .ok (.istore_n 2, 1) := by decide +kernel
theorem dX10_sort_2 : decode cX10_sort 2 = .ok (.iload_n 2, 1) := by decide +kernel
theorem dX10_sort_3 : decode cX10_sort 3 = .ok (.iload_n 1, 1) := by decide +kernel
theorem dX10_sort_4 : decode cX10_sort 4 = .ok (.if_icmp .ge 52, 3) := by decide +kernel
theorem dX10_sort_7 : decode cX10_sort 7 = .ok (.aload_n 0, 1) := by decide +kernel
theorem dX10_sort_8 : decode cX10_sort 8 = .ok (.iload_n 2, 1) := by decide +kernel
theorem dX10_sort_9 : decode cX10_sort 9 = .ok (.iaload, 1) := by decide +kernel
theorem dX10_sort_10 : decode cX10_sort 10 = .ok (.istore_n 3, 1) := by decide +kernel
theorem dX10_sort_11 : decode cX10_sort 11 = .ok (.iload_n 2, 1) := by decide +kernel
theorem dX10_sort_12 : decode cX10_sort 12 = .ok (.istore 4, 2) := by decide +kernel
theorem dX10_sort_14 : decode cX10_sort 14 = .ok (.iload 4, 2) := by decide +kernel
theorem dX10_sort_16 : decode cX10_sort 16 = .ok (.ifCond .le 29, 3) := by decide +kernel
theorem dX10_sort_19 : decode cX10_sort 19 = .ok (.aload_n 0, 1) := by decide +kernel
theorem dX10_sort_20 : decode cX10_sort 20 = .ok (.iload 4, 2) := by decide +kernel
theorem dX10_sort_22 : decode cX10_sort 22 = .ok (.iconst 1, 1) := by decide +kernel
theorem dX10_sort_23 : decode cX10_sort 23 = .ok (.isub, 1) := by decide +kernel
theorem dX10_sort_24 : decode cX10_sort 24 = .ok (.iaload, 1) := by decide +kernel
theorem dX10_sort_25 : decode cX10_sort 25 = .ok (.iload_n 3, 1) := by decide +kernel
theorem dX10_sort_26 : decode cX10_sort 26 = .ok (.if_icmp .le 19, 3) := by decide +kernel
theorem dX10_sort_29 : decode cX10_sort 29 = .ok (.aload_n 0, 1) := by decide +kernel
theorem dX10_sort_30 : decode cX10_sort 30 = .ok (.iload 4, 2) := by decide +kernel
theorem dX10_sort_32 : decode cX10_sort 32 = .ok (.aload_n 0, 1) := by decide +kernel
theorem dX10_sort_33 : decode cX10_sort 33 = .ok (.iload 4, 2) := by decide +kernel
theorem dX10_sort_35 : decode cX10_sort 35 = .ok (.iconst 1, 1) := by decide +kernel
theorem dX10_sort_36 : decode cX10_sort 36 = .ok (.isub, 1) := by decide +kernel
theorem dX10_sort_37 : decode cX10_sort 37 = .ok (.iaload, 1) := by decide +kernel
theorem dX10_sort_38 : decode cX10_sort 38 = .ok (.iastore, 1) := by decide +kernel
theorem dX10_sort_39 : decode cX10_sort 39 = .ok (.iinc 4 (-1), 3) := by decide +kernel
theorem dX10_sort_42 : decode cX10_sort 42 = .ok (.goto (-28), 3) := by decide +kernel
theorem dX10_sort_45 : decode cX10_sort 45 = .ok (.aload_n 0, 1) := by decide +kernel
theorem dX10_sort_46 : decode cX10_sort 46 = .ok (.iload 4, 2) := by decide +kernel
theorem dX10_sort_48 : decode cX10_sort 48 = .ok (.iload_n 3, 1) := by decide +kernel
theorem dX10_sort_49 : decode cX10_sort 49 = .ok (.iastore, 1) := by decide +kernel
theorem dX10_sort_50 : decode cX10_sort 50 = .ok (.iinc 2 1, 3) := by decide +kernel
theorem dX10_sort_53 : decode cX10_sort 53 = .ok (.goto (-51), 3) := by decide +kernel
theorem dX10_sort_56 : decode cX10_sort 56 = .ok (.return_, 1) := by decide +kernel
def xX10_sort_45 (k2 : Int32 → Int32 → j_M → Option (j_M)) (n0 : Nat) (u0 : Nat) (l1 : Int32) (l2 : Int32) (l3 : Int32) (l4 : Int32) (M : j_M) : Option (j_M) := gd l4 n0 (oml (mw M u0 (ix l4) l3) fun M1 => k2 l1 (l2 + (nI 1)) M1)
set_option maxRecDepth 20000 in
set_option maxHeartbeats 2000000 in
theorem tX10_sort_45 (k2 : Int32 → Int32 → j_M → Option (j_M)) (n0 : Nat) (u0 : Nat) (hk2 : ∀ (l1 : Int32) (l2 : Int32) (M : j_M), J (ρ := j_M) yX10_sort cX10_sort 5 none 0 0 j_ev 2 [(0, .inr (1, n0, u0)), (1, .inl (l1)), (2, .inl (l2))] [] M (k2 l1 l2 M)) (l1 : Int32) (l2 : Int32) (l3 : Int32) (l4 : Int32) (M : j_M) : J (ρ := j_M) yX10_sort cX10_sort 5 none 0 0 j_ev 45 [(0, .inr (1, n0, u0)), (1, .inl (l1)), (2, .inl (l2)), (3, .inl (l3)), (4, .inl (l4))] [] M (xX10_sort_45 k2 n0 u0 l1 l2 l3 l4 M) := by
  unfold xX10_sort_45
  refine K_aload_n (q := 46) 0 dX10_sort_45 rfl rfl rfl ?_
  refine K_iload (q := 48) 4 dX10_sort_46 rfl rfl ?_
  refine K_iload_n (q := 49) 3 dX10_sort_48 rfl rfl rfl ?_
  refine K_iast (q := 50) dX10_sort_49 rfl (fun M1 => ?_)
  refine K_iinc (q := 53) (v := l2 + (nI 1)) (ll' := [(2, .inl (l2 + (nI 1))), (0, .inr (1, n0, u0)), (1, .inl (l1)), (3, .inl (l3)), (4, .inl (l4))]) 2 dX10_sort_50 rfl rfl (by decide) rfl rfl ?_
  refine J_goto (tgt := 2) dX10_sort_53 rfl ?_
  exact J_sub [1, 2, 0] (hk2 l1 (l2 + (nI 1)) M1) rfl
def xX10_sort_14 (k2 : Int32 → Int32 → j_M → Option (j_M)) (n0 : Nat) (u0 : Nat) : Nat → Int32 → Int32 → Int32 → Int32 → j_M → Option (j_M)
  | 0, _, _, _, _, _ => none
  | n + 1, l1, l2, l3, l4, M => (if l4 ≤ (0 : Int32) then xX10_sort_45 k2 n0 u0 l1 l2 l3 l4 M else gd (l4 - (nI 1)) n0 (oli (M u0 (ix (l4 - (nI 1)))) fun v1 => (if v1 ≤ l3 then xX10_sort_45 k2 n0 u0 l1 l2 l3 l4 M else gd (l4 - (nI 1)) n0 (oli (M u0 (ix (l4 - (nI 1)))) fun v2 => gd l4 n0 (oml (mw M u0 (ix l4) v2) fun M3 => xX10_sort_14 k2 n0 u0 n l1 l2 l3 (l4 + (-1 : Int32)) M3)))))
set_option maxRecDepth 20000 in
set_option maxHeartbeats 2000000 in
theorem tX10_sort_14 (k2 : Int32 → Int32 → j_M → Option (j_M)) (n0 : Nat) (u0 : Nat) (hk2 : ∀ (l1 : Int32) (l2 : Int32) (M : j_M), J (ρ := j_M) yX10_sort cX10_sort 5 none 0 0 j_ev 2 [(0, .inr (1, n0, u0)), (1, .inl (l1)), (2, .inl (l2))] [] M (k2 l1 l2 M)) : ∀ (n : Nat) (l1 : Int32) (l2 : Int32) (l3 : Int32) (l4 : Int32) (M : j_M), J (ρ := j_M) yX10_sort cX10_sort 5 none 0 0 j_ev 14 [(0, .inr (1, n0, u0)), (1, .inl (l1)), (2, .inl (l2)), (3, .inl (l3)), (4, .inl (l4))] [] M (xX10_sort_14 k2 n0 u0 n l1 l2 l3 l4 M) := by
  intro n
  induction n with
  | zero => intros; exact J_none
  | succ n ih =>
    intro l1 l2 l3 l4 M
    rw [xX10_sort_14.eq_2]
    refine K_iload (q := 16) 4 dX10_sort_14 rfl rfl ?_
    refine K_if_le (q := 19) (tgt := 45) dX10_sort_16 rfl ?_ rfl ?_
    · exact J_sub [0, 1, 2, 3, 4] (tX10_sort_45 k2 n0 u0 hk2 l1 l2 l3 l4 M) rfl
    · refine K_aload_n (q := 20) 0 dX10_sort_19 rfl rfl rfl ?_
      refine K_iload (q := 22) 4 dX10_sort_20 rfl rfl ?_
      refine K_iconst (q := 23) (v := nI 1) dX10_sort_22 rfl rfl ?_
      refine K_isub (q := 24) dX10_sort_23 rfl ?_
      refine K_iald (q := 25) dX10_sort_24 rfl (fun v1 => ?_)
      refine K_iload_n (q := 26) 3 dX10_sort_25 rfl rfl rfl ?_
      refine K_icmp_le (q := 29) (tgt := 45) dX10_sort_26 rfl ?_ rfl ?_
      · exact J_sub [0, 1, 2, 3, 4] (tX10_sort_45 k2 n0 u0 hk2 l1 l2 l3 l4 M) rfl
      · refine K_aload_n (q := 30) 0 dX10_sort_29 rfl rfl rfl ?_
        refine K_iload (q := 32) 4 dX10_sort_30 rfl rfl ?_
        refine K_aload_n (q := 33) 0 dX10_sort_32 rfl rfl rfl ?_
        refine K_iload (q := 35) 4 dX10_sort_33 rfl rfl ?_
        refine K_iconst (q := 36) (v := nI 1) dX10_sort_35 rfl rfl ?_
        refine K_isub (q := 37) dX10_sort_36 rfl ?_
        refine K_iald (q := 38) dX10_sort_37 rfl (fun v2 => ?_)
        refine K_iast (q := 39) dX10_sort_38 rfl (fun M3 => ?_)
        refine K_iinc (q := 42) (v := l4 + (-1 : Int32)) (ll' := [(4, .inl (l4 + (-1 : Int32))), (0, .inr (1, n0, u0)), (1, .inl (l1)), (2, .inl (l2)), (3, .inl (l3))]) 4 dX10_sort_39 rfl rfl (by decide) rfl rfl ?_
        refine J_goto (tgt := 14) dX10_sort_42 rfl ?_
        exact J_sub [1, 2, 3, 4, 0] (ih l1 l2 l3 (l4 + (-1 : Int32)) M3) rfl
def xX10_sort_2  (n0 : Nat) (u0 : Nat) : Nat → Int32 → Int32 → j_M → Option (j_M)
  | 0, _, _, _ => none
  | n + 1, l1, l2, M => (if l1 ≤ l2 then some M else gd l2 n0 (oli (M u0 (ix l2)) fun v1 => xX10_sort_14 (xX10_sort_2 n0 u0 n) n0 u0 fu l1 l2 v1 l2 M))
set_option maxRecDepth 20000 in
set_option maxHeartbeats 2000000 in
theorem tX10_sort_2  (n0 : Nat) (u0 : Nat)  : ∀ (n : Nat) (l1 : Int32) (l2 : Int32) (M : j_M), J (ρ := j_M) yX10_sort cX10_sort 5 none 0 0 j_ev 2 [(0, .inr (1, n0, u0)), (1, .inl (l1)), (2, .inl (l2))] [] M (xX10_sort_2 n0 u0 n l1 l2 M) := by
  intro n
  induction n with
  | zero => intros; exact J_none
  | succ n ih =>
    intro l1 l2 M
    rw [xX10_sort_2.eq_2]
    refine K_iload_n (q := 3) 2 dX10_sort_2 rfl rfl rfl ?_
    refine K_iload_n (q := 4) 1 dX10_sort_3 rfl rfl rfl ?_
    refine K_icmp_ge (q := 7) (tgt := 56) dX10_sort_4 rfl ?_ rfl ?_
    · exact J_vret dX10_sort_56
    · refine K_aload_n (q := 8) 0 dX10_sort_7 rfl rfl rfl ?_
      refine K_iload_n (q := 9) 2 dX10_sort_8 rfl rfl rfl ?_
      refine K_iald (q := 10) dX10_sort_9 rfl (fun v1 => ?_)
      refine K_istore_n (q := 11) (ll' := [(3, .inl (v1)), (0, .inr (1, n0, u0)), (1, .inl (l1)), (2, .inl (l2))]) dX10_sort_10 rfl (by decide) rfl rfl ?_
      refine K_iload_n (q := 12) 3 dX10_sort_11 rfl rfl rfl ?_
      refine K_istore (q := 14) (ll' := [(4, .inl (l2)), (3, .inl (v1)), (0, .inr (1, n0, u0)), (1, .inl (l1)), (2, .inl (l2))]) dX10_sort_12 (by decide) rfl rfl ?_
      exact J_sub [2, 3, 4, 1, 0] (tX10_sort_14 (xX10_sort_2 n0 u0 n) n0 u0 ih fu l1 l2 v1 l2 M) rfl
def xX10_sort (n0 : Nat) (u0 : Nat) (l1 : Int32) (M : j_M) : Option (j_M) := xX10_sort_2 n0 u0 fu l1 (nI 1) M
set_option maxRecDepth 20000 in
set_option maxHeartbeats 2000000 in
theorem tX10_sort (n0 : Nat) (u0 : Nat) (l1 : Int32) (M : j_M) : J (ρ := j_M) yX10_sort cX10_sort 5 none 0 0 j_ev 0 [(0, .inr (1, n0, u0)), (1, .inl (l1))] [] M (xX10_sort n0 u0 l1 M) := by
  unfold xX10_sort
  refine K_iconst (q := 1) (v := nI 1) dX10_sort_0 rfl rfl ?_
  refine K_istore_n (q := 2) (ll' := [(2, .inl ((nI 1))), (0, .inr (1, n0, u0)), (1, .inl (l1))]) dX10_sort_1 rfl (by decide) rfl rfl ?_
  exact J_sub [1, 2, 0] (tX10_sort_2 n0 u0 fu l1 (nI 1) M) rfl
theorem dX10_enter_0 : decode cX10_enter 0 = .ok (.aload_n 1, 1) := by decide +kernel
theorem dX10_enter_1 : decode cX10_enter 1 = .ok (.getfield 47, 3) := by decide +kernel
theorem dX10_enter_4 : decode cX10_enter 4 = .ok (.bipush 24, 2) := by decide +kernel
theorem dX10_enter_6 : decode cX10_enter 6 = .ok (.if_icmp .le 10, 3) := by decide +kernel
theorem dX10_enter_9 : decode cX10_enter 9 = .ok (.aload_n 0, 1) := by decide +kernel
theorem dX10_enter_10 : decode cX10_enter 10 = .ok (.iconst 1, 1) := by decide +kernel
theorem dX10_enter_11 : decode cX10_enter 11 = .ok (.putfield 77, 3) := by decide +kernel
theorem dX10_enter_14 : decode cX10_enter 14 = .ok (.iconst (-1), 1) := by decide +kernel
theorem dX10_enter_15 : decode cX10_enter 15 = .ok (.ireturn, 1) := by decide +kernel
theorem dX10_enter_16 : decode cX10_enter 16 = .ok (.aload_n 1, 1) := by decide +kernel
theorem dX10_enter_17 : decode cX10_enter 17 = .ok (.getfield 44, 3) := by decide +kernel
theorem dX10_enter_20 : decode cX10_enter 20 = .ok (.aload_n 1, 1) := by decide +kernel
theorem dX10_enter_21 : decode cX10_enter 21 = .ok (.getfield 47, 3) := by decide +kernel
theorem dX10_enter_24 : decode cX10_enter 24 = .ok (.invokestatic 51, 3) := by decide +kernel
theorem dX10_enter_27 : decode cX10_enter 27 = .ok (.aload_n 0, 1) := by decide +kernel
theorem dX10_enter_28 : decode cX10_enter 28 = .ok (.aload_n 1, 1) := by decide +kernel
theorem dX10_enter_29 : decode cX10_enter 29 = .ok (.invokevirtual 111, 3) := by decide +kernel
theorem dX10_enter_32 : decode cX10_enter 32 = .ok (.sipush 1023, 3) := by decide +kernel
theorem dX10_enter_35 : decode cX10_enter 35 = .ok (.iand, 1) := by decide +kernel
theorem dX10_enter_36 : decode cX10_enter 36 = .ok (.istore_n 3, 1) := by decide +kernel
theorem dX10_enter_37 : decode cX10_enter 37 = .ok (.iconst 0, 1) := by decide +kernel
theorem dX10_enter_38 : decode cX10_enter 38 = .ok (.istore 4, 2) := by decide +kernel
theorem dX10_enter_40 : decode cX10_enter 40 = .ok (.iload 4, 2) := by decide +kernel
theorem dX10_enter_42 : decode cX10_enter 42 = .ok (.sipush 1024, 3) := by decide +kernel
theorem dX10_enter_45 : decode cX10_enter 45 = .ok (.if_icmp .ge 51, 3) := by decide +kernel
theorem dX10_enter_48 : decode cX10_enter 48 = .ok (.aload_n 0, 1) := by decide +kernel
theorem dX10_enter_49 : decode cX10_enter 49 = .ok (.getfield 29, 3) := by decide +kernel
theorem dX10_enter_52 : decode cX10_enter 52 = .ok (.iload_n 3, 1) := by decide +kernel
theorem dX10_enter_53 : decode cX10_enter 53 = .ok (.iaload, 1) := by decide +kernel
theorem dX10_enter_54 : decode cX10_enter 54 = .ok (.ifCond .eq 42, 3) := by decide +kernel
theorem dX10_enter_57 : decode cX10_enter 57 = .ok (.aload_n 0, 1) := by decide +kernel
theorem dX10_enter_58 : decode cX10_enter 58 = .ok (.aload_n 0, 1) := by decide +kernel
theorem dX10_enter_59 : decode cX10_enter 59 = .ok (.getfield 29, 3) := by decide +kernel
theorem dX10_enter_62 : decode cX10_enter 62 = .ok (.iload_n 3, 1) := by decide +kernel
theorem dX10_enter_63 : decode cX10_enter 63 = .ok (.iaload, 1) := by decide +kernel
theorem dX10_enter_64 : decode cX10_enter 64 = .ok (.iconst 1, 1) := by decide +kernel
theorem dX10_enter_65 : decode cX10_enter 65 = .ok (.isub, 1) := by decide +kernel
theorem dX10_enter_66 : decode cX10_enter 66 = .ok (.aload_n 1, 1) := by decide +kernel
theorem dX10_enter_67 : decode cX10_enter 67 = .ok (.invokevirtual 70, 3) := by decide +kernel
theorem dX10_enter_70 : decode cX10_enter 70 = .ok (.ifCond .eq 12, 3) := by decide +kernel
theorem dX10_enter_73 : decode cX10_enter 73 = .ok (.aload_n 0, 1) := by decide +kernel
theorem dX10_enter_74 : decode cX10_enter 74 = .ok (.getfield 29, 3) := by decide +kernel
theorem dX10_enter_77 : decode cX10_enter 77 = .ok (.iload_n 3, 1) := by decide +kernel
theorem dX10_enter_78 : decode cX10_enter 78 = .ok (.iaload, 1) := by decide +kernel
theorem dX10_enter_79 : decode cX10_enter 79 = .ok (.iconst 1, 1) := by decide +kernel
theorem dX10_enter_80 : decode cX10_enter 80 = .ok (.isub, 1) := by decide +kernel
theorem dX10_enter_81 : decode cX10_enter 81 = .ok (.ireturn, 1) := by decide +kernel
theorem dX10_enter_82 : decode cX10_enter 82 = .ok (.iload_n 3, 1) := by decide +kernel
theorem dX10_enter_83 : decode cX10_enter 83 = .ok (.iconst 1, 1) := by decide +kernel
theorem dX10_enter_84 : decode cX10_enter 84 = .ok (.iadd, 1) := by decide +kernel
theorem dX10_enter_85 : decode cX10_enter 85 = .ok (.sipush 1023, 3) := by decide +kernel
theorem dX10_enter_88 : decode cX10_enter 88 = .ok (.iand, 1) := by decide +kernel
theorem dX10_enter_89 : decode cX10_enter 89 = .ok (.istore_n 3, 1) := by decide +kernel
theorem dX10_enter_90 : decode cX10_enter 90 = .ok (.iinc 4 1, 3) := by decide +kernel
theorem dX10_enter_93 : decode cX10_enter 93 = .ok (.goto (-53), 3) := by decide +kernel
theorem dX10_enter_96 : decode cX10_enter 96 = .ok (.aload_n 0, 1) := by decide +kernel
theorem dX10_enter_97 : decode cX10_enter 97 = .ok (.getfield 55, 3) := by decide +kernel
theorem dX10_enter_100 : decode cX10_enter 100 = .ok (.sipush 250, 3) := by decide +kernel
theorem dX10_enter_103 : decode cX10_enter 103 = .ok (.if_icmp .lt 10, 3) := by decide +kernel
theorem dX10_enter_106 : decode cX10_enter 106 = .ok (.aload_n 0, 1) := by decide +kernel
theorem dX10_enter_107 : decode cX10_enter 107 = .ok (.iconst 1, 1) := by decide +kernel
theorem dX10_enter_108 : decode cX10_enter 108 = .ok (.putfield 77, 3) := by decide +kernel
theorem dX10_enter_111 : decode cX10_enter 111 = .ok (.iconst (-1), 1) := by decide +kernel
theorem dX10_enter_112 : decode cX10_enter 112 = .ok (.ireturn, 1) := by decide +kernel
theorem dX10_enter_113 : decode cX10_enter 113 = .ok (.aload_n 1, 1) := by decide +kernel
theorem dX10_enter_114 : decode cX10_enter 114 = .ok (.getfield 100, 3) := by decide +kernel
theorem dX10_enter_117 : decode cX10_enter 117 = .ok (.iconst 0, 1) := by decide +kernel
theorem dX10_enter_118 : decode cX10_enter 118 = .ok (.aload_n 0, 1) := by decide +kernel
theorem dX10_enter_119 : decode cX10_enter 119 = .ok (.getfield 17, 3) := by decide +kernel
theorem dX10_enter_122 : decode cX10_enter 122 = .ok (.aload_n 0, 1) := by decide +kernel
theorem dX10_enter_123 : decode cX10_enter 123 = .ok (.getfield 55, 3) := by decide +kernel
theorem dX10_enter_126 : decode cX10_enter 126 = .ok (.bipush 112, 2) := by decide +kernel
theorem dX10_enter_128 : decode cX10_enter 128 = .ok (.imul, 1) := by decide +kernel
theorem dX10_enter_129 : decode cX10_enter 129 = .ok (.aload_n 0, 1) := by decide +kernel
theorem dX10_enter_130 : decode cX10_enter 130 = .ok (.getfield 81, 3) := by decide +kernel
theorem dX10_enter_133 : decode cX10_enter 133 = .ok (.invokestatic 101, 3) := by decide +kernel
theorem dX10_enter_136 : decode cX10_enter 136 = .ok (.aload_n 1, 1) := by decide +kernel
theorem dX10_enter_137 : decode cX10_enter 137 = .ok (.getfield 44, 3) := by decide +kernel
theorem dX10_enter_140 : decode cX10_enter 140 = .ok (.iconst 0, 1) := by decide +kernel
theorem dX10_enter_141 : decode cX10_enter 141 = .ok (.aload_n 0, 1) := by decide +kernel
theorem dX10_enter_142 : decode cX10_enter 142 = .ok (.getfield 20, 3) := by decide +kernel
theorem dX10_enter_145 : decode cX10_enter 145 = .ok (.aload_n 0, 1) := by decide +kernel
theorem dX10_enter_146 : decode cX10_enter 146 = .ok (.getfield 55, 3) := by decide +kernel
theorem dX10_enter_149 : decode cX10_enter 149 = .ok (.bipush 24, 2) := by decide +kernel
theorem dX10_enter_151 : decode cX10_enter 151 = .ok (.imul, 1) := by decide +kernel
theorem dX10_enter_152 : decode cX10_enter 152 = .ok (.aload_n 1, 1) := by decide +kernel
theorem dX10_enter_153 : decode cX10_enter 153 = .ok (.getfield 47, 3) := by decide +kernel
theorem dX10_enter_156 : decode cX10_enter 156 = .ok (.invokestatic 101, 3) := by decide +kernel
theorem dX10_enter_159 : decode cX10_enter 159 = .ok (.aload_n 0, 1) := by decide +kernel
theorem dX10_enter_160 : decode cX10_enter 160 = .ok (.getfield 23, 3) := by decide +kernel
theorem dX10_enter_163 : decode cX10_enter 163 = .ok (.aload_n 0, 1) := by decide +kernel
theorem dX10_enter_164 : decode cX10_enter 164 = .ok (.getfield 55, 3) := by decide +kernel
theorem dX10_enter_167 : decode cX10_enter 167 = .ok (.aload_n 1, 1) := by decide +kernel
theorem dX10_enter_168 : decode cX10_enter 168 = .ok (.getfield 47, 3) := by decide +kernel
theorem dX10_enter_171 : decode cX10_enter 171 = .ok (.iastore, 1) := by decide +kernel
theorem dX10_enter_172 : decode cX10_enter 172 = .ok (.aload_n 0, 1) := by decide +kernel
theorem dX10_enter_173 : decode cX10_enter 173 = .ok (.getfield 26, 3) := by decide +kernel
theorem dX10_enter_176 : decode cX10_enter 176 = .ok (.aload_n 0, 1) := by decide +kernel
theorem dX10_enter_177 : decode cX10_enter 177 = .ok (.getfield 55, 3) := by decide +kernel
theorem dX10_enter_180 : decode cX10_enter 180 = .ok (.iload_n 2, 1) := by decide +kernel
theorem dX10_enter_181 : decode cX10_enter 181 = .ok (.iastore, 1) := by decide +kernel
theorem dX10_enter_182 : decode cX10_enter 182 = .ok (.aload_n 0, 1) := by decide +kernel
theorem dX10_enter_183 : decode cX10_enter 183 = .ok (.dup, 1) := by decide +kernel
theorem dX10_enter_184 : decode cX10_enter 184 = .ok (.getfield 55, 3) := by decide +kernel
theorem dX10_enter_187 : decode cX10_enter 187 = .ok (.iconst 1, 1) := by decide +kernel
theorem dX10_enter_188 : decode cX10_enter 188 = .ok (.iadd, 1) := by decide +kernel
theorem dX10_enter_189 : decode cX10_enter 189 = .ok (.putfield 55, 3) := by decide +kernel
theorem dX10_enter_192 : decode cX10_enter 192 = .ok (.aload_n 0, 1) := by decide +kernel
theorem dX10_enter_193 : decode cX10_enter 193 = .ok (.getfield 29, 3) := by decide +kernel
theorem dX10_enter_196 : decode cX10_enter 196 = .ok (.iload_n 3, 1) := by decide +kernel
theorem dX10_enter_197 : decode cX10_enter 197 = .ok (.aload_n 0, 1) := by decide +kernel
theorem dX10_enter_198 : decode cX10_enter 198 = .ok (.getfield 55, 3) := by decide +kernel
theorem dX10_enter_201 : decode cX10_enter 201 = .ok (.iastore, 1) := by decide +kernel
theorem dX10_enter_202 : decode cX10_enter 202 = .ok (.aload_n 0, 1) := by decide +kernel
theorem dX10_enter_203 : decode cX10_enter 203 = .ok (.getfield 55, 3) := by decide +kernel
theorem dX10_enter_206 : decode cX10_enter 206 = .ok (.iconst 1, 1) := by decide +kernel
theorem dX10_enter_207 : decode cX10_enter 207 = .ok (.isub, 1) := by decide +kernel
theorem dX10_enter_208 : decode cX10_enter 208 = .ok (.ireturn, 1) := by decide +kernel
def xX10_enter_96  (u1 : Nat) (l2 : Int32) (l3 : Int32) (M : j_M) : Option (Int32 × j_M) := oli (M 100 10) fun v1 => (if v1 < (nI 250) then oli (M 100 10) fun v2 => oli (M 100 15) fun v3 => gc (nI 0) (v2 * (nI 112)) v3 112 28000 (oml (mcp M (u1 + 1) (ix (nI 0)) 102 (ix (v2 * (nI 112))) (ix v3)) fun M4 => oli (M4 100 10) fun v5 => oli (M4 u1 8) fun v6 => gc (nI 0) (v5 * (nI 24)) v6 256 6000 (oml (mcp M4 (u1 + 2) (ix (nI 0)) 103 (ix (v5 * (nI 24))) (ix v6)) fun M7 => oli (M7 100 10) fun v8 => oli (M7 u1 8) fun v9 => gd v8 250 (oml (mw M7 104 (ix v8) v9) fun M10 => oli (M10 100 10) fun v11 => gd v11 250 (oml (mw M10 105 (ix v11) l2) fun M12 => oli (M12 100 10) fun v13 => oml (mw M12 100 10 (v13 + (nI 1))) fun M14 => oli (M14 100 10) fun v15 => gd l3 1024 (oml (mw M14 106 (ix l3) v15) fun M16 => oli (M16 100 10) fun v17 => some (v17 - (nI 1), M16)))))) else gz (nI 1) (oml (mw M 100 16 (nI 1)) fun M18 => some ((-1 : Int32), M18)))
set_option maxRecDepth 20000 in
set_option maxHeartbeats 2000000 in
theorem tX10_enter_96  (u1 : Nat)  (l2 : Int32) (l3 : Int32) (M : j_M) : J (ρ := Int32 × j_M) yX10_enter cX10_enter 5 (some .int) 1 30 j_ei 96 [(0, .inr (15, 0, 100)), (1, .inr (10, 0, u1)), (2, .inl (l2)), (3, .inl (l3))] [] M (xX10_enter_96 u1 l2 l3 M) := by
  unfold xX10_enter_96
  refine K_aload_n (q := 97) 0 dX10_enter_96 rfl rfl rfl ?_
  refine K_getI (q := 100) (ci := 5) 10 dX10_enter_97 fRX10_55 rfl rfl rfl (fun v1 => ?_)
  refine K_sipush (q := 103) (v := nI 250) dX10_enter_100 rfl rfl ?_
  refine K_icmp_lt (q := 106) (tgt := 113) dX10_enter_103 rfl ?_ rfl ?_
  · refine K_aload_n (q := 114) 1 dX10_enter_113 rfl rfl rfl ?_
    refine K_getR (q := 117) (ci := 0) (a2 := u1 + 1) 1 dX10_enter_114 fRX10_100 rfl rfl (by decide) rfl rfl ?_
    refine K_iconst (q := 118) (v := nI 0) dX10_enter_117 rfl rfl ?_
    refine K_aload_n (q := 119) 0 dX10_enter_118 rfl rfl rfl ?_
    refine K_getR (q := 122) (ci := 5) (a2 := 102) 1 dX10_enter_119 fRX10_17 rfl rfl (by decide) rfl rfl ?_
    refine K_aload_n (q := 123) 0 dX10_enter_122 rfl rfl rfl ?_
    refine K_getI (q := 126) (ci := 5) 10 dX10_enter_123 fRX10_55 rfl rfl rfl (fun v2 => ?_)
    refine K_bipush (q := 128) (v := nI 112) dX10_enter_126 rfl rfl ?_
    refine K_imul (q := 129) dX10_enter_128 rfl ?_
    refine K_aload_n (q := 130) 0 dX10_enter_129 rfl rfl rfl ?_
    refine K_getI (q := 133) (ci := 5) 15 dX10_enter_130 fRX10_81 rfl rfl rfl (fun v3 => ?_)
    refine K_acopy (q := 136) dX10_enter_133 (j_in 1044 (by decide +kernel) (by decide +kernel)) ac_nat ac_stat ac_ini (by decide) (Nat.le_of_ble_eq_true rfl) rfl (fun M4 => ?_)
    refine K_aload_n (q := 137) 1 dX10_enter_136 rfl rfl rfl ?_
    refine K_getR (q := 140) (ci := 0) (a2 := u1 + 2) 2 dX10_enter_137 fRX10_44 rfl rfl (by decide) rfl rfl ?_
    refine K_iconst (q := 141) (v := nI 0) dX10_enter_140 rfl rfl ?_
    refine K_aload_n (q := 142) 0 dX10_enter_141 rfl rfl rfl ?_
    refine K_getR (q := 145) (ci := 5) (a2 := 103) 2 dX10_enter_142 fRX10_20 rfl rfl (by decide) rfl rfl ?_
    refine K_aload_n (q := 146) 0 dX10_enter_145 rfl rfl rfl ?_
    refine K_getI (q := 149) (ci := 5) 10 dX10_enter_146 fRX10_55 rfl rfl rfl (fun v5 => ?_)
    refine K_bipush (q := 151) (v := nI 24) dX10_enter_149 rfl rfl ?_
    refine K_imul (q := 152) dX10_enter_151 rfl ?_
    refine K_aload_n (q := 153) 1 dX10_enter_152 rfl rfl rfl ?_
    refine K_getI (q := 156) (ci := 0) 8 dX10_enter_153 fRX10_47 rfl rfl rfl (fun v6 => ?_)
    refine K_acopy (q := 159) dX10_enter_156 (j_in 1044 (by decide +kernel) (by decide +kernel)) ac_nat ac_stat ac_ini (by decide) (Nat.le_of_ble_eq_true rfl) rfl (fun M7 => ?_)
    refine K_aload_n (q := 160) 0 dX10_enter_159 rfl rfl rfl ?_
    refine K_getR (q := 163) (ci := 5) (a2 := 104) 3 dX10_enter_160 fRX10_23 rfl rfl (by decide) rfl rfl ?_
    refine K_aload_n (q := 164) 0 dX10_enter_163 rfl rfl rfl ?_
    refine K_getI (q := 167) (ci := 5) 10 dX10_enter_164 fRX10_55 rfl rfl rfl (fun v8 => ?_)
    refine K_aload_n (q := 168) 1 dX10_enter_167 rfl rfl rfl ?_
    refine K_getI (q := 171) (ci := 0) 8 dX10_enter_168 fRX10_47 rfl rfl rfl (fun v9 => ?_)
    refine K_iast (q := 172) dX10_enter_171 rfl (fun M10 => ?_)
    refine K_aload_n (q := 173) 0 dX10_enter_172 rfl rfl rfl ?_
    refine K_getR (q := 176) (ci := 5) (a2 := 105) 4 dX10_enter_173 fRX10_26 rfl rfl (by decide) rfl rfl ?_
    refine K_aload_n (q := 177) 0 dX10_enter_176 rfl rfl rfl ?_
    refine K_getI (q := 180) (ci := 5) 10 dX10_enter_177 fRX10_55 rfl rfl rfl (fun v11 => ?_)
    refine K_iload_n (q := 181) 2 dX10_enter_180 rfl rfl rfl ?_
    refine K_iast (q := 182) dX10_enter_181 rfl (fun M12 => ?_)
    refine K_aload_n (q := 183) 0 dX10_enter_182 rfl rfl rfl ?_
    refine K_dup (q := 184) dX10_enter_183 rfl ?_
    refine K_getI (q := 187) (ci := 5) 10 dX10_enter_184 fRX10_55 rfl rfl rfl (fun v13 => ?_)
    refine K_iconst (q := 188) (v := nI 1) dX10_enter_187 rfl rfl ?_
    refine K_iadd (q := 189) dX10_enter_188 rfl ?_
    refine K_putI (q := 192) (ci := 5) 10 dX10_enter_189 fRX10_55 fp_5_10 rfl rfl (by decide) rfl (fun M14 => ?_)
    refine K_aload_n (q := 193) 0 dX10_enter_192 rfl rfl rfl ?_
    refine K_getR (q := 196) (ci := 5) (a2 := 106) 5 dX10_enter_193 fRX10_29 rfl rfl (by decide) rfl rfl ?_
    refine K_iload_n (q := 197) 3 dX10_enter_196 rfl rfl rfl ?_
    refine K_aload_n (q := 198) 0 dX10_enter_197 rfl rfl rfl ?_
    refine K_getI (q := 201) (ci := 5) 10 dX10_enter_198 fRX10_55 rfl rfl rfl (fun v15 => ?_)
    refine K_iast (q := 202) dX10_enter_201 rfl (fun M16 => ?_)
    refine K_aload_n (q := 203) 0 dX10_enter_202 rfl rfl rfl ?_
    refine K_getI (q := 206) (ci := 5) 10 dX10_enter_203 fRX10_55 rfl rfl rfl (fun v17 => ?_)
    refine K_iconst (q := 207) (v := nI 1) dX10_enter_206 rfl rfl ?_
    refine K_isub (q := 208) dX10_enter_207 rfl ?_
    exact J_iret dX10_enter_208
  · refine K_aload_n (q := 107) 0 dX10_enter_106 rfl rfl rfl ?_
    refine K_iconst (q := 108) (v := nI 1) dX10_enter_107 rfl rfl ?_
    refine K_putZ (q := 111) (ci := 5) 16 dX10_enter_108 fRX10_77 fp_5_16 rfl rfl (by decide) rfl (fun M18 => ?_)
    refine K_iconst (q := 112) (v := -1) dX10_enter_111 rfl rfl ?_
    exact J_iret dX10_enter_112
def xX10_enter_40  (u1 : Nat) : Nat → Int32 → Int32 → Int32 → j_M → Option (Int32 × j_M)
  | 0, _, _, _, _ => none
  | n + 1, l2, l3, l4, M => (if (nI 1024) ≤ l4 then xX10_enter_96 u1 l2 l3 M else gd l3 1024 (oli (M 106 (ix l3)) fun v1 => (if v1 = (0 : Int32) then xX10_enter_96 u1 l2 l3 M else gd l3 1024 (oli (M 106 (ix l3)) fun v2 => obi (xX10_isState u1 (v2 - (nI 1)) M) fun v4 M3 => (if v4 = (0 : Int32) then xX10_enter_40 u1 n l2 ((l3 + (nI 1)) &&& (nI 1023)) (l4 + (nI 1)) M3 else gd l3 1024 (oli (M3 106 (ix l3)) fun v5 => some (v5 - (nI 1), M3)))))))
set_option maxRecDepth 20000 in
set_option maxHeartbeats 2000000 in
theorem tX10_enter_40  (u1 : Nat)  : ∀ (n : Nat) (l2 : Int32) (l3 : Int32) (l4 : Int32) (M : j_M), J (ρ := Int32 × j_M) yX10_enter cX10_enter 5 (some .int) 1 30 j_ei 40 [(0, .inr (15, 0, 100)), (1, .inr (10, 0, u1)), (2, .inl (l2)), (3, .inl (l3)), (4, .inl (l4))] [] M (xX10_enter_40 u1 n l2 l3 l4 M) := by
  intro n
  induction n with
  | zero => intros; exact J_none
  | succ n ih =>
    intro l2 l3 l4 M
    rw [xX10_enter_40.eq_2]
    refine K_iload (q := 42) 4 dX10_enter_40 rfl rfl ?_
    refine K_sipush (q := 45) (v := nI 1024) dX10_enter_42 rfl rfl ?_
    refine K_icmp_ge (q := 48) (tgt := 96) dX10_enter_45 rfl ?_ rfl ?_
    · exact J_sub [0, 1, 2, 3] (tX10_enter_96 u1 l2 l3 M) rfl
    · refine K_aload_n (q := 49) 0 dX10_enter_48 rfl rfl rfl ?_
      refine K_getR (q := 52) (ci := 5) (a2 := 106) 5 dX10_enter_49 fRX10_29 rfl rfl (by decide) rfl rfl ?_
      refine K_iload_n (q := 53) 3 dX10_enter_52 rfl rfl rfl ?_
      refine K_iald (q := 54) dX10_enter_53 rfl (fun v1 => ?_)
      refine K_if_eq (q := 57) (tgt := 96) dX10_enter_54 rfl ?_ rfl ?_
      · exact J_sub [0, 1, 2, 3] (tX10_enter_96 u1 l2 l3 M) rfl
      · refine K_aload_n (q := 58) 0 dX10_enter_57 rfl rfl rfl ?_
        refine K_aload_n (q := 59) 0 dX10_enter_58 rfl rfl rfl ?_
        refine K_getR (q := 62) (ci := 5) (a2 := 106) 5 dX10_enter_59 fRX10_29 rfl rfl (by decide) rfl rfl ?_
        refine K_iload_n (q := 63) 3 dX10_enter_62 rfl rfl rfl ?_
        refine K_iald (q := 64) dX10_enter_63 rfl (fun v2 => ?_)
        refine K_iconst (q := 65) (v := nI 1) dX10_enter_64 rfl rfl ?_
        refine K_isub (q := 66) dX10_enter_65 rfl ?_
        refine K_aload_n (q := 67) 1 dX10_enter_66 rfl rfl rfl ?_
        refine K_cvi (q := 70) [.inl (v2 - (nI 1)), .inr (10, 0, u1)] dX10_enter_67 cb_X10_isState cvRX10_70 rc_5 (show (15 : Nat) ≠ 0 by decide) rfl (Nat.le_of_ble_eq_true rfl) ⟨by decide, by decide⟩ (Nat.le_of_ble_eq_true rfl) rfl (tX10_isState u1 (v2 - (nI 1)) M) rfl (fun v4 M3 => ?_)
        refine K_if_eq (q := 73) (tgt := 82) dX10_enter_70 rfl ?_ rfl ?_
        · refine K_iload_n (q := 83) 3 dX10_enter_82 rfl rfl rfl ?_
          refine K_iconst (q := 84) (v := nI 1) dX10_enter_83 rfl rfl ?_
          refine K_iadd (q := 85) dX10_enter_84 rfl ?_
          refine K_sipush (q := 88) (v := nI 1023) dX10_enter_85 rfl rfl ?_
          refine K_iand (q := 89) dX10_enter_88 rfl ?_
          refine K_istore_n (q := 90) (ll' := [(3, .inl ((l3 + (nI 1)) &&& (nI 1023))), (0, .inr (15, 0, 100)), (1, .inr (10, 0, u1)), (2, .inl (l2)), (4, .inl (l4))]) dX10_enter_89 rfl (by decide) rfl rfl ?_
          refine K_iinc (q := 93) (v := l4 + (nI 1)) (ll' := [(4, .inl (l4 + (nI 1))), (3, .inl ((l3 + (nI 1)) &&& (nI 1023))), (0, .inr (15, 0, 100)), (1, .inr (10, 0, u1)), (2, .inl (l2))]) 4 dX10_enter_90 rfl rfl (by decide) rfl rfl ?_
          refine J_goto (tgt := 40) dX10_enter_93 rfl ?_
          exact J_sub [2, 3, 4, 1, 0] (ih l2 ((l3 + (nI 1)) &&& (nI 1023)) (l4 + (nI 1)) M3) rfl
        · refine K_aload_n (q := 74) 0 dX10_enter_73 rfl rfl rfl ?_
          refine K_getR (q := 77) (ci := 5) (a2 := 106) 5 dX10_enter_74 fRX10_29 rfl rfl (by decide) rfl rfl ?_
          refine K_iload_n (q := 78) 3 dX10_enter_77 rfl rfl rfl ?_
          refine K_iald (q := 79) dX10_enter_78 rfl (fun v5 => ?_)
          refine K_iconst (q := 80) (v := nI 1) dX10_enter_79 rfl rfl ?_
          refine K_isub (q := 81) dX10_enter_80 rfl ?_
          exact J_iret dX10_enter_81
def xX10_enter (u1 : Nat) (l2 : Int32) (M : j_M) : Option (Int32 × j_M) := oli (M u1 8) fun v1 => (if v1 ≤ (nI 24) then oli (M u1 8) fun v2 => obv (xX10_sort 256 (u1 + 2) v2 M) fun M3 => obi (xX10_hash u1 M3) fun v5 M4 => xX10_enter_40 u1 fu l2 (v5 &&& (nI 1023)) (nI 0) M4 else gz (nI 1) (oml (mw M 100 16 (nI 1)) fun M6 => some ((-1 : Int32), M6)))
set_option maxRecDepth 20000 in
set_option maxHeartbeats 2000000 in
theorem tX10_enter (u1 : Nat) (l2 : Int32) (M : j_M) : J (ρ := Int32 × j_M) yX10_enter cX10_enter 5 (some .int) 1 30 j_ei 0 [(0, .inr (15, 0, 100)), (1, .inr (10, 0, u1)), (2, .inl (l2))] [] M (xX10_enter u1 l2 M) := by
  unfold xX10_enter
  refine K_aload_n (q := 1) 1 dX10_enter_0 rfl rfl rfl ?_
  refine K_getI (q := 4) (ci := 0) 8 dX10_enter_1 fRX10_47 rfl rfl rfl (fun v1 => ?_)
  refine K_bipush (q := 6) (v := nI 24) dX10_enter_4 rfl rfl ?_
  refine K_icmp_le (q := 9) (tgt := 16) dX10_enter_6 rfl ?_ rfl ?_
  · refine K_aload_n (q := 17) 1 dX10_enter_16 rfl rfl rfl ?_
    refine K_getR (q := 20) (ci := 0) (a2 := u1 + 2) 2 dX10_enter_17 fRX10_44 rfl rfl (by decide) rfl rfl ?_
    refine K_aload_n (q := 21) 1 dX10_enter_20 rfl rfl rfl ?_
    refine K_getI (q := 24) (ci := 0) 8 dX10_enter_21 fRX10_47 rfl rfl rfl (fun v2 => ?_)
    refine K_csv (q := 27) [.inr (1, 256, u1 + 2), .inl (v2)] dX10_enter_24 cb_X10_sort cvRX10_51 rfl (Nat.le_of_ble_eq_true rfl) ⟨by decide, by decide⟩ (Nat.le_of_ble_eq_true rfl) rfl (tX10_sort 256 (u1 + 2) v2 M) rfl (fun M3 => ?_)
    refine K_aload_n (q := 28) 0 dX10_enter_27 rfl rfl rfl ?_
    refine K_aload_n (q := 29) 1 dX10_enter_28 rfl rfl rfl ?_
    refine K_cvi (q := 32) [.inr (10, 0, u1)] dX10_enter_29 cb_X10_hash cvRX10_111 rc_5 (show (15 : Nat) ≠ 0 by decide) rfl (Nat.le_of_ble_eq_true rfl) ⟨by decide, by decide⟩ (Nat.le_of_ble_eq_true rfl) rfl (tX10_hash u1 M3) rfl (fun v5 M4 => ?_)
    refine K_sipush (q := 35) (v := nI 1023) dX10_enter_32 rfl rfl ?_
    refine K_iand (q := 36) dX10_enter_35 rfl ?_
    refine K_istore_n (q := 37) (ll' := [(3, .inl (v5 &&& (nI 1023))), (0, .inr (15, 0, 100)), (1, .inr (10, 0, u1)), (2, .inl (l2))]) dX10_enter_36 rfl (by decide) rfl rfl ?_
    refine K_iconst (q := 38) (v := nI 0) dX10_enter_37 rfl rfl ?_
    refine K_istore (q := 40) (ll' := [(4, .inl ((nI 0))), (3, .inl (v5 &&& (nI 1023))), (0, .inr (15, 0, 100)), (1, .inr (10, 0, u1)), (2, .inl (l2))]) dX10_enter_38 (by decide) rfl rfl ?_
    exact J_sub [2, 3, 4, 1, 0] (tX10_enter_40 u1 fu l2 (v5 &&& (nI 1023)) (nI 0) M4) rfl
  · refine K_aload_n (q := 10) 0 dX10_enter_9 rfl rfl rfl ?_
    refine K_iconst (q := 11) (v := nI 1) dX10_enter_10 rfl rfl ?_
    refine K_putZ (q := 14) (ci := 5) 16 dX10_enter_11 fRX10_77 fp_5_16 rfl rfl (by decide) rfl (fun M6 => ?_)
    refine K_iconst (q := 15) (v := -1) dX10_enter_14 rfl rfl ?_
    exact J_iret dX10_enter_15
theorem dX10_expand_0 : decode cX10_expand 0 = .ok (.iload_n 2, 1) := by decide +kernel
theorem dX10_expand_1 : decode cX10_expand 1 = .ok (.bipush 24, 2) := by decide +kernel
theorem dX10_expand_3 : decode cX10_expand 3 = .ok (.imul, 1) := by decide +kernel
theorem dX10_expand_4 : decode cX10_expand 4 = .ok (.istore_n 3, 1) := by decide +kernel
theorem dX10_expand_5 : decode cX10_expand 5 = .ok (.iconst 0, 1) := by decide +kernel
theorem dX10_expand_6 : decode cX10_expand 6 = .ok (.istore 4, 2) := by decide +kernel
theorem dX10_expand_8 : decode cX10_expand 8 = .ok (.iload 4, 2) := by decide +kernel
theorem dX10_expand_10 : decode cX10_expand 10 = .ok (.aload_n 0, 1) := by decide +kernel
theorem dX10_expand_11 : decode cX10_expand 11 = .ok (.getfield 23, 3) := by decide +kernel
theorem dX10_expand_14 : decode cX10_expand 14 = .ok (.iload_n 2, 1) := by decide +kernel
theorem dX10_expand_15 : decode cX10_expand 15 = .ok (.iaload, 1) := by decide +kernel
theorem dX10_expand_16 : decode cX10_expand 16 = .ok (.if_icmp .ge 145, 3) := by decide +kernel
theorem dX10_expand_19 : decode cX10_expand 19 = .ok (.aload_n 0, 1) := by decide +kernel
theorem dX10_expand_20 : decode cX10_expand 20 = .ok (.getfield 77, 3) := by decide +kernel
theorem dX10_expand_23 : decode cX10_expand 23 = .ok (.ifCond .ne 138, 3) := by decide +kernel
theorem dX10_expand_26 : decode cX10_expand 26 = .ok (.iload 4, 2) := by decide +kernel
theorem dX10_expand_28 : decode cX10_expand 28 = .ok (.ifCond .le 29, 3) := by decide +kernel
theorem dX10_expand_31 : decode cX10_expand 31 = .ok (.aload_n 0, 1) := by decide +kernel
theorem dX10_expand_32 : decode cX10_expand 32 = .ok (.getfield 20, 3) := by decide +kernel
theorem dX10_expand_35 : decode cX10_expand 35 = .ok (.iload_n 3, 1) := by decide +kernel
theorem dX10_expand_36 : decode cX10_expand 36 = .ok (.iload 4, 2) := by decide +kernel
theorem dX10_expand_38 : decode cX10_expand 38 = .ok (.iadd, 1) := by decide +kernel
theorem dX10_expand_39 : decode cX10_expand 39 = .ok (.iaload, 1) := by decide +kernel
theorem dX10_expand_40 : decode cX10_expand 40 = .ok (.aload_n 0, 1) := by decide +kernel
theorem dX10_expand_41 : decode cX10_expand 41 = .ok (.getfield 20, 3) := by decide +kernel
theorem dX10_expand_44 : decode cX10_expand 44 = .ok (.iload_n 3, 1) := by decide +kernel
theorem dX10_expand_45 : decode cX10_expand 45 = .ok (.iload 4, 2) := by decide +kernel
theorem dX10_expand_47 : decode cX10_expand 47 = .ok (.iadd, 1) := by decide +kernel
theorem dX10_expand_48 : decode cX10_expand 48 = .ok (.iconst 1, 1) := by decide +kernel
theorem dX10_expand_49 : decode cX10_expand 49 = .ok (.isub, 1) := by decide +kernel
theorem dX10_expand_50 : decode cX10_expand 50 = .ok (.iaload, 1) := by decide +kernel
theorem dX10_expand_51 : decode cX10_expand 51 = .ok (.if_icmp .ne 6, 3) := by decide +kernel
theorem dX10_expand_54 : decode cX10_expand 54 = .ok (.goto 101, 3) := by decide +kernel
theorem dX10_expand_57 : decode cX10_expand 57 = .ok (.aload_n 0, 1) := by decide +kernel
theorem dX10_expand_58 : decode cX10_expand 58 = .ok (.getfield 17, 3) := by decide +kernel
theorem dX10_expand_61 : decode cX10_expand 61 = .ok (.iload_n 2, 1) := by decide +kernel
theorem dX10_expand_62 : decode cX10_expand 62 = .ok (.bipush 112, 2) := by decide +kernel
theorem dX10_expand_64 : decode cX10_expand 64 = .ok (.imul, 1) := by decide +kernel
theorem dX10_expand_65 : decode cX10_expand 65 = .ok (.aload_n 1, 1) := by decide +kernel
theorem dX10_expand_66 : decode cX10_expand 66 = .ok (.getfield 100, 3) := by decide +kernel
theorem dX10_expand_69 : decode cX10_expand 69 = .ok (.iconst 0, 1) := by decide +kernel
theorem dX10_expand_70 : decode cX10_expand 70 = .ok (.aload_n 0, 1) := by decide +kernel
theorem dX10_expand_71 : decode cX10_expand 71 = .ok (.getfield 81, 3) := by decide +kernel
theorem dX10_expand_74 : decode cX10_expand 74 = .ok (.invokestatic 101, 3) := by decide +kernel
theorem dX10_expand_77 : decode cX10_expand 77 = .ok (.aload_n 0, 1) := by decide +kernel
theorem dX10_expand_78 : decode cX10_expand 78 = .ok (.getfield 20, 3) := by decide +kernel
theorem dX10_expand_81 : decode cX10_expand 81 = .ok (.iload_n 3, 1) := by decide +kernel
theorem dX10_expand_82 : decode cX10_expand 82 = .ok (.aload_n 1, 1) := by decide +kernel
theorem dX10_expand_83 : decode cX10_expand 83 = .ok (.getfield 44, 3) := by decide +kernel
theorem dX10_expand_86 : decode cX10_expand 86 = .ok (.iconst 0, 1) := by decide +kernel
theorem dX10_expand_87 : decode cX10_expand 87 = .ok (.aload_n 0, 1) := by decide +kernel
theorem dX10_expand_88 : decode cX10_expand 88 = .ok (.getfield 23, 3) := by decide +kernel
theorem dX10_expand_91 : decode cX10_expand 91 = .ok (.iload_n 2, 1) := by decide +kernel
theorem dX10_expand_92 : decode cX10_expand 92 = .ok (.iaload, 1) := by decide +kernel
theorem dX10_expand_93 : decode cX10_expand 93 = .ok (.invokestatic 101, 3) := by decide +kernel
theorem dX10_expand_96 : decode cX10_expand 96 = .ok (.aload_n 1, 1) := by decide +kernel
theorem dX10_expand_97 : decode cX10_expand 97 = .ok (.aload_n 0, 1) := by decide +kernel
theorem dX10_expand_98 : decode cX10_expand 98 = .ok (.getfield 23, 3) := by decide +kernel
theorem dX10_expand_101 : decode cX10_expand 101 = .ok (.iload_n 2, 1) := by decide +kernel
theorem dX10_expand_102 : decode cX10_expand 102 = .ok (.iaload, 1) := by decide +kernel
theorem dX10_expand_103 : decode cX10_expand 103 = .ok (.putfield 47, 3) := by decide +kernel
theorem dX10_expand_106 : decode cX10_expand 106 = .ok (.aload_n 1, 1) := by decide +kernel
theorem dX10_expand_107 : decode cX10_expand 107 = .ok (.iload 4, 2) := by decide +kernel
theorem dX10_expand_109 : decode cX10_expand 109 = .ok (.invokevirtual 107, 3) := by decide +kernel
theorem dX10_expand_112 : decode cX10_expand 112 = .ok (.pop, 1) := by decide +kernel
theorem dX10_expand_113 : decode cX10_expand 113 = .ok (.aload_n 0, 1) := by decide +kernel
theorem dX10_expand_114 : decode cX10_expand 114 = .ok (.aload_n 1, 1) := by decide +kernel
theorem dX10_expand_115 : decode cX10_expand 115 = .ok (.aload_n 0, 1) := by decide +kernel
theorem dX10_expand_116 : decode cX10_expand 116 = .ok (.getfield 26, 3) := by decide +kernel
theorem dX10_expand_119 : decode cX10_expand 119 = .ok (.iload_n 2, 1) := by decide +kernel
theorem dX10_expand_120 : decode cX10_expand 120 = .ok (.iaload, 1) := by decide +kernel
theorem dX10_expand_121 : decode cX10_expand 121 = .ok (.iconst 1, 1) := by decide +kernel
theorem dX10_expand_122 : decode cX10_expand 122 = .ok (.iadd, 1) := by decide +kernel
theorem dX10_expand_123 : decode cX10_expand 123 = .ok (.invokevirtual 89, 3) := by decide +kernel
theorem dX10_expand_126 : decode cX10_expand 126 = .ok (.istore 5, 2) := by decide +kernel
theorem dX10_expand_128 : decode cX10_expand 128 = .ok (.iload 5, 2) := by decide +kernel
theorem dX10_expand_130 : decode cX10_expand 130 = .ok (.iconst (-1), 1) := by decide +kernel
theorem dX10_expand_131 : decode cX10_expand 131 = .ok (.if_icmp .eq 24, 3) := by decide +kernel
theorem dX10_expand_134 : decode cX10_expand 134 = .ok (.aload_n 0, 1) := by decide +kernel
theorem dX10_expand_135 : decode cX10_expand 135 = .ok (.getfield 32, 3) := by decide +kernel
theorem dX10_expand_138 : decode cX10_expand 138 = .ok (.aload_n 0, 1) := by decide +kernel
theorem dX10_expand_139 : decode cX10_expand 139 = .ok (.getfield 74, 3) := by decide +kernel
theorem dX10_expand_142 : decode cX10_expand 142 = .ok (.iload 5, 2) := by decide +kernel
theorem dX10_expand_144 : decode cX10_expand 144 = .ok (.iastore, 1) := by decide +kernel
theorem dX10_expand_145 : decode cX10_expand 145 = .ok (.aload_n 0, 1) := by decide +kernel
theorem dX10_expand_146 : decode cX10_expand 146 = .ok (.dup, 1) := by decide +kernel
theorem dX10_expand_147 : decode cX10_expand 147 = .ok (.getfield 74, 3) := by decide +kernel
theorem dX10_expand_150 : decode cX10_expand 150 = .ok (.iconst 1, 1) := by decide +kernel
theorem dX10_expand_151 : decode cX10_expand 151 = .ok (.iadd, 1) := by decide +kernel
theorem dX10_expand_152 : decode cX10_expand 152 = .ok (.putfield 74, 3) := by decide +kernel
theorem dX10_expand_155 : decode cX10_expand 155 = .ok (.iinc 4 1, 3) := by decide +kernel
theorem dX10_expand_158 : decode cX10_expand 158 = .ok (.goto (-150), 3) := by decide +kernel
theorem dX10_expand_161 : decode cX10_expand 161 = .ok (.aload_n 0, 1) := by decide +kernel
theorem dX10_expand_162 : decode cX10_expand 162 = .ok (.getfield 35, 3) := by decide +kernel
theorem dX10_expand_165 : decode cX10_expand 165 = .ok (.iload_n 2, 1) := by decide +kernel
theorem dX10_expand_166 : decode cX10_expand 166 = .ok (.aload_n 0, 1) := by decide +kernel
theorem dX10_expand_167 : decode cX10_expand 167 = .ok (.getfield 74, 3) := by decide +kernel
theorem dX10_expand_170 : decode cX10_expand 170 = .ok (.iastore, 1) := by decide +kernel
theorem dX10_expand_171 : decode cX10_expand 171 = .ok (.return_, 1) := by decide +kernel
def xX10_expand_161  (u1 : Nat) (l2 : Int32) (M : j_M) : Option (j_M) := oli (M 100 11) fun v1 => gd l2 250 (oml (mw M 108 (ix l2) v1) fun M2 => some M2)
set_option maxRecDepth 20000 in
set_option maxHeartbeats 2000000 in
theorem tX10_expand_161  (u1 : Nat)  (l2 : Int32) (M : j_M) : J (ρ := j_M) yX10_expand cX10_expand 6 none 5 138 j_ev 161 [(0, .inr (15, 0, 100)), (2, .inl (l2))] [] M (xX10_expand_161 u1 l2 M) := by
  unfold xX10_expand_161
  refine K_aload_n (q := 162) 0 dX10_expand_161 rfl rfl rfl ?_
  refine K_getR (q := 165) (ci := 5) (a2 := 108) 7 dX10_expand_162 fRX10_35 rfl rfl (by decide) rfl rfl ?_
  refine K_iload_n (q := 166) 1 dX10_expand_165 rfl rfl rfl ?_
  refine K_aload_n (q := 167) 0 dX10_expand_166 rfl rfl rfl ?_
  refine K_getI (q := 170) (ci := 5) 11 dX10_expand_167 fRX10_74 rfl rfl rfl (fun v1 => ?_)
  refine K_iast (q := 171) dX10_expand_170 rfl (fun M2 => ?_)
  exact J_vret dX10_expand_171
def xX10_expand_57 (k8 : Int32 → Int32 → Int32 → j_M → Option (j_M)) (u1 : Nat) (l2 : Int32) (l3 : Int32) (l4 : Int32) (M : j_M) : Option (j_M) := oli (M 100 15) fun v1 => gc (l2 * (nI 112)) (nI 0) v1 28000 112 (oml (mcp M 102 (ix (l2 * (nI 112))) (u1 + 1) (ix (nI 0)) (ix v1)) fun M2 => gd l2 250 (oli (M2 104 (ix l2)) fun v3 => gc l3 (nI 0) v3 6000 256 (oml (mcp M2 103 (ix l3) (u1 + 2) (ix (nI 0)) (ix v3)) fun M4 => gd l2 250 (oli (M4 104 (ix l2)) fun v5 => oml (mw M4 u1 8 v5) fun M6 => obi (xX1_deliverAt u1 l4 M6) fun v8 M7 => gd l2 250 (oli (M7 105 (ix l2)) fun v9 => obi (xX10_enter u1 (v9 + (nI 1)) M7) fun v11 M10 => (if v11 = (-1 : Int32) then k8 l2 l3 (l4 + (nI 1)) M10 else oli (M10 100 11) fun v12 => gd v12 6000 (oml (mw M10 107 (ix v12) v11) fun M13 => oli (M13 100 11) fun v14 => oml (mw M13 100 11 (v14 + (nI 1))) fun M15 => k8 l2 l3 (l4 + (nI 1)) M15)))))))
set_option maxRecDepth 20000 in
set_option maxHeartbeats 2000000 in
theorem tX10_expand_57 (k8 : Int32 → Int32 → Int32 → j_M → Option (j_M)) (u1 : Nat) (hk8 : ∀ (l2 : Int32) (l3 : Int32) (l4 : Int32) (M : j_M), J (ρ := j_M) yX10_expand cX10_expand 6 none 5 138 j_ev 8 [(0, .inr (15, 0, 100)), (1, .inr (10, 0, u1)), (2, .inl (l2)), (3, .inl (l3)), (4, .inl (l4))] [] M (k8 l2 l3 l4 M)) (l2 : Int32) (l3 : Int32) (l4 : Int32) (M : j_M) : J (ρ := j_M) yX10_expand cX10_expand 6 none 5 138 j_ev 57 [(0, .inr (15, 0, 100)), (1, .inr (10, 0, u1)), (2, .inl (l2)), (3, .inl (l3)), (4, .inl (l4))] [] M (xX10_expand_57 k8 u1 l2 l3 l4 M) := by
  unfold xX10_expand_57
  refine K_aload_n (q := 58) 0 dX10_expand_57 rfl rfl rfl ?_
  refine K_getR (q := 61) (ci := 5) (a2 := 102) 1 dX10_expand_58 fRX10_17 rfl rfl (by decide) rfl rfl ?_
  refine K_iload_n (q := 62) 2 dX10_expand_61 rfl rfl rfl ?_
  refine K_bipush (q := 64) (v := nI 112) dX10_expand_62 rfl rfl ?_
  refine K_imul (q := 65) dX10_expand_64 rfl ?_
  refine K_aload_n (q := 66) 1 dX10_expand_65 rfl rfl rfl ?_
  refine K_getR (q := 69) (ci := 0) (a2 := u1 + 1) 1 dX10_expand_66 fRX10_100 rfl rfl (by decide) rfl rfl ?_
  refine K_iconst (q := 70) (v := nI 0) dX10_expand_69 rfl rfl ?_
  refine K_aload_n (q := 71) 0 dX10_expand_70 rfl rfl rfl ?_
  refine K_getI (q := 74) (ci := 5) 15 dX10_expand_71 fRX10_81 rfl rfl rfl (fun v1 => ?_)
  refine K_acopy (q := 77) dX10_expand_74 (j_in 1044 (by decide +kernel) (by decide +kernel)) ac_nat ac_stat ac_ini (by decide) (Nat.le_of_ble_eq_true rfl) rfl (fun M2 => ?_)
  refine K_aload_n (q := 78) 0 dX10_expand_77 rfl rfl rfl ?_
  refine K_getR (q := 81) (ci := 5) (a2 := 103) 2 dX10_expand_78 fRX10_20 rfl rfl (by decide) rfl rfl ?_
  refine K_iload_n (q := 82) 3 dX10_expand_81 rfl rfl rfl ?_
  refine K_aload_n (q := 83) 1 dX10_expand_82 rfl rfl rfl ?_
  refine K_getR (q := 86) (ci := 0) (a2 := u1 + 2) 2 dX10_expand_83 fRX10_44 rfl rfl (by decide) rfl rfl ?_
  refine K_iconst (q := 87) (v := nI 0) dX10_expand_86 rfl rfl ?_
  refine K_aload_n (q := 88) 0 dX10_expand_87 rfl rfl rfl ?_
  refine K_getR (q := 91) (ci := 5) (a2 := 104) 3 dX10_expand_88 fRX10_23 rfl rfl (by decide) rfl rfl ?_
  refine K_iload_n (q := 92) 2 dX10_expand_91 rfl rfl rfl ?_
  refine K_iald (q := 93) dX10_expand_92 rfl (fun v3 => ?_)
  refine K_acopy (q := 96) dX10_expand_93 (j_in 1044 (by decide +kernel) (by decide +kernel)) ac_nat ac_stat ac_ini (by decide) (Nat.le_of_ble_eq_true rfl) rfl (fun M4 => ?_)
  refine K_aload_n (q := 97) 1 dX10_expand_96 rfl rfl rfl ?_
  refine K_aload_n (q := 98) 0 dX10_expand_97 rfl rfl rfl ?_
  refine K_getR (q := 101) (ci := 5) (a2 := 104) 3 dX10_expand_98 fRX10_23 rfl rfl (by decide) rfl rfl ?_
  refine K_iload_n (q := 102) 2 dX10_expand_101 rfl rfl rfl ?_
  refine K_iald (q := 103) dX10_expand_102 rfl (fun v5 => ?_)
  refine K_putI (q := 106) (ci := 0) 8 dX10_expand_103 fRX10_47 fp_0_8 rfl rfl (by decide) rfl (fun M6 => ?_)
  refine K_aload_n (q := 107) 1 dX10_expand_106 rfl rfl rfl ?_
  refine K_iload (q := 109) 4 dX10_expand_107 rfl rfl ?_
  refine K_cvi (q := 112) [.inl (l4)] dX10_expand_109 cb_X1_deliverAt cvRX10_107 rc_0 (show (10 : Nat) ≠ 0 by decide) rfl (Nat.le_of_ble_eq_true rfl) ⟨by decide, by decide⟩ (Nat.le_of_ble_eq_true rfl) rfl (tX1_deliverAt u1 l4 M6) rfl (fun v8 M7 => ?_)
  refine K_pop (q := 113) dX10_expand_112 rfl ?_
  refine K_aload_n (q := 114) 0 dX10_expand_113 rfl rfl rfl ?_
  refine K_aload_n (q := 115) 1 dX10_expand_114 rfl rfl rfl ?_
  refine K_aload_n (q := 116) 0 dX10_expand_115 rfl rfl rfl ?_
  refine K_getR (q := 119) (ci := 5) (a2 := 105) 4 dX10_expand_116 fRX10_26 rfl rfl (by decide) rfl rfl ?_
  refine K_iload_n (q := 120) 2 dX10_expand_119 rfl rfl rfl ?_
  refine K_iald (q := 121) dX10_expand_120 rfl (fun v9 => ?_)
  refine K_iconst (q := 122) (v := nI 1) dX10_expand_121 rfl rfl ?_
  refine K_iadd (q := 123) dX10_expand_122 rfl ?_
  refine K_cvi (q := 126) [.inr (10, 0, u1), .inl (v9 + (nI 1))] dX10_expand_123 cb_X10_enter cvRX10_89 rc_5 (show (15 : Nat) ≠ 0 by decide) rfl (Nat.le_of_ble_eq_true rfl) ⟨by decide, by decide⟩ (Nat.le_of_ble_eq_true rfl) rfl (tX10_enter u1 (v9 + (nI 1)) M7) rfl (fun v11 M10 => ?_)
  refine K_istore (q := 128) (ll' := [(5, .inl (v11)), (0, .inr (15, 0, 100)), (1, .inr (10, 0, u1)), (2, .inl (l2)), (3, .inl (l3)), (4, .inl (l4))]) dX10_expand_126 (by decide) rfl rfl ?_
  refine K_iload (q := 130) 0 dX10_expand_128 rfl rfl ?_
  refine K_iconst (q := 131) (v := -1) dX10_expand_130 rfl rfl ?_
  refine K_icmp_eq (q := 134) (tgt := 155) dX10_expand_131 rfl ?_ rfl ?_
  · refine K_iinc (q := 158) (v := l4 + (nI 1)) (ll' := [(4, .inl (l4 + (nI 1))), (5, .inl (v11)), (0, .inr (15, 0, 100)), (1, .inr (10, 0, u1)), (2, .inl (l2)), (3, .inl (l3))]) 5 dX10_expand_155 rfl rfl (by decide) rfl rfl ?_
    refine J_goto (tgt := 8) dX10_expand_158 rfl ?_
    exact J_sub [2, 3, 4, 5, 0] (hk8 l2 l3 (l4 + (nI 1)) M10) rfl
  · refine K_aload_n (q := 135) 1 dX10_expand_134 rfl rfl rfl ?_
    refine K_getR (q := 138) (ci := 5) (a2 := 107) 6 dX10_expand_135 fRX10_32 rfl rfl (by decide) rfl rfl ?_
    refine K_aload_n (q := 139) 1 dX10_expand_138 rfl rfl rfl ?_
    refine K_getI (q := 142) (ci := 5) 11 dX10_expand_139 fRX10_74 rfl rfl rfl (fun v12 => ?_)
    refine K_iload (q := 144) 0 dX10_expand_142 rfl rfl ?_
    refine K_iast (q := 145) dX10_expand_144 rfl (fun M13 => ?_)
    refine K_aload_n (q := 146) 1 dX10_expand_145 rfl rfl rfl ?_
    refine K_dup (q := 147) dX10_expand_146 rfl ?_
    refine K_getI (q := 150) (ci := 5) 11 dX10_expand_147 fRX10_74 rfl rfl rfl (fun v14 => ?_)
    refine K_iconst (q := 151) (v := nI 1) dX10_expand_150 rfl rfl ?_
    refine K_iadd (q := 152) dX10_expand_151 rfl ?_
    refine K_putI (q := 155) (ci := 5) 11 dX10_expand_152 fRX10_74 fp_5_11 rfl rfl (by decide) rfl (fun M15 => ?_)
    refine K_iinc (q := 158) (v := l4 + (nI 1)) (ll' := [(4, .inl (l4 + (nI 1))), (5, .inl (v11)), (0, .inr (15, 0, 100)), (1, .inr (10, 0, u1)), (2, .inl (l2)), (3, .inl (l3))]) 5 dX10_expand_155 rfl rfl (by decide) rfl rfl ?_
    refine J_goto (tgt := 8) dX10_expand_158 rfl ?_
    exact J_sub [2, 3, 4, 5, 0] (hk8 l2 l3 (l4 + (nI 1)) M15) rfl
def xX10_expand_8  (u1 : Nat) : Nat → Int32 → Int32 → Int32 → j_M → Option (j_M)
  | 0, _, _, _, _ => none
  | n + 1, l2, l3, l4, M => gd l2 250 (oli (M 104 (ix l2)) fun v1 => (if v1 ≤ l4 then xX10_expand_161 u1 l2 M else oli (M 100 16) fun v2 => (if v2 = (0 : Int32) then (if l4 ≤ (0 : Int32) then xX10_expand_57 (xX10_expand_8 u1 n) u1 l2 l3 l4 M else gd (l3 + l4) 6000 (oli (M 103 (ix (l3 + l4))) fun v3 => gd ((l3 + l4) - (nI 1)) 6000 (oli (M 103 (ix ((l3 + l4) - (nI 1)))) fun v4 => (if v3 = v4 then xX10_expand_8 u1 n l2 l3 (l4 + (nI 1)) M else xX10_expand_57 (xX10_expand_8 u1 n) u1 l2 l3 l4 M)))) else xX10_expand_161 u1 l2 M)))
set_option maxRecDepth 20000 in
set_option maxHeartbeats 2000000 in
theorem tX10_expand_8  (u1 : Nat)  : ∀ (n : Nat) (l2 : Int32) (l3 : Int32) (l4 : Int32) (M : j_M), J (ρ := j_M) yX10_expand cX10_expand 6 none 5 138 j_ev 8 [(0, .inr (15, 0, 100)), (1, .inr (10, 0, u1)), (2, .inl (l2)), (3, .inl (l3)), (4, .inl (l4))] [] M (xX10_expand_8 u1 n l2 l3 l4 M) := by
  intro n
  induction n with
  | zero => intros; exact J_none
  | succ n ih =>
    intro l2 l3 l4 M
    rw [xX10_expand_8.eq_2]
    refine K_iload (q := 10) 4 dX10_expand_8 rfl rfl ?_
    refine K_aload_n (q := 11) 0 dX10_expand_10 rfl rfl rfl ?_
    refine K_getR (q := 14) (ci := 5) (a2 := 104) 3 dX10_expand_11 fRX10_23 rfl rfl (by decide) rfl rfl ?_
    refine K_iload_n (q := 15) 2 dX10_expand_14 rfl rfl rfl ?_
    refine K_iald (q := 16) dX10_expand_15 rfl (fun v1 => ?_)
    refine K_icmp_ge (q := 19) (tgt := 161) dX10_expand_16 rfl ?_ rfl ?_
    · exact J_sub [0, 2] (tX10_expand_161 u1 l2 M) rfl
    · refine K_aload_n (q := 20) 0 dX10_expand_19 rfl rfl rfl ?_
      refine K_getI (q := 23) (ci := 5) 16 dX10_expand_20 fRX10_77 rfl rfl rfl (fun v2 => ?_)
      refine K_if_ne (q := 26) (tgt := 161) dX10_expand_23 rfl ?_ rfl ?_
      · exact J_sub [0, 2] (tX10_expand_161 u1 l2 M) rfl
      · refine K_iload (q := 28) 4 dX10_expand_26 rfl rfl ?_
        refine K_if_le (q := 31) (tgt := 57) dX10_expand_28 rfl ?_ rfl ?_
        · exact J_sub [0, 1, 2, 3, 4] (tX10_expand_57 (xX10_expand_8 u1 n) u1 ih l2 l3 l4 M) rfl
        · refine K_aload_n (q := 32) 0 dX10_expand_31 rfl rfl rfl ?_
          refine K_getR (q := 35) (ci := 5) (a2 := 103) 2 dX10_expand_32 fRX10_20 rfl rfl (by decide) rfl rfl ?_
          refine K_iload_n (q := 36) 3 dX10_expand_35 rfl rfl rfl ?_
          refine K_iload (q := 38) 4 dX10_expand_36 rfl rfl ?_
          refine K_iadd (q := 39) dX10_expand_38 rfl ?_
          refine K_iald (q := 40) dX10_expand_39 rfl (fun v3 => ?_)
          refine K_aload_n (q := 41) 0 dX10_expand_40 rfl rfl rfl ?_
          refine K_getR (q := 44) (ci := 5) (a2 := 103) 2 dX10_expand_41 fRX10_20 rfl rfl (by decide) rfl rfl ?_
          refine K_iload_n (q := 45) 3 dX10_expand_44 rfl rfl rfl ?_
          refine K_iload (q := 47) 4 dX10_expand_45 rfl rfl ?_
          refine K_iadd (q := 48) dX10_expand_47 rfl ?_
          refine K_iconst (q := 49) (v := nI 1) dX10_expand_48 rfl rfl ?_
          refine K_isub (q := 50) dX10_expand_49 rfl ?_
          refine K_iald (q := 51) dX10_expand_50 rfl (fun v4 => ?_)
          refine K_icmp_ne (q := 54) (tgt := 57) dX10_expand_51 rfl ?_ rfl ?_
          · exact J_sub [0, 1, 2, 3, 4] (tX10_expand_57 (xX10_expand_8 u1 n) u1 ih l2 l3 l4 M) rfl
          · refine J_goto (tgt := 155) dX10_expand_54 rfl ?_
            refine K_iinc (q := 158) (v := l4 + (nI 1)) (ll' := [(4, .inl (l4 + (nI 1))), (0, .inr (15, 0, 100)), (1, .inr (10, 0, u1)), (2, .inl (l2)), (3, .inl (l3))]) 4 dX10_expand_155 rfl rfl (by decide) rfl rfl ?_
            refine J_goto (tgt := 8) dX10_expand_158 rfl ?_
            exact J_sub [1, 2, 3, 4, 0] (ih l2 l3 (l4 + (nI 1)) M) rfl
def xX10_expand (u1 : Nat) (l2 : Int32) (M : j_M) : Option (j_M) := xX10_expand_8 u1 fu l2 (l2 * (nI 24)) (nI 0) M
set_option maxRecDepth 20000 in
set_option maxHeartbeats 2000000 in
theorem tX10_expand (u1 : Nat) (l2 : Int32) (M : j_M) : J (ρ := j_M) yX10_expand cX10_expand 6 none 5 138 j_ev 0 [(0, .inr (15, 0, 100)), (1, .inr (10, 0, u1)), (2, .inl (l2))] [] M (xX10_expand u1 l2 M) := by
  unfold xX10_expand
  refine K_iload_n (q := 1) 2 dX10_expand_0 rfl rfl rfl ?_
  refine K_bipush (q := 3) (v := nI 24) dX10_expand_1 rfl rfl ?_
  refine K_imul (q := 4) dX10_expand_3 rfl ?_
  refine K_istore_n (q := 5) (ll' := [(3, .inl (l2 * (nI 24))), (0, .inr (15, 0, 100)), (1, .inr (10, 0, u1)), (2, .inl (l2))]) dX10_expand_4 rfl (by decide) rfl rfl ?_
  refine K_iconst (q := 6) (v := nI 0) dX10_expand_5 rfl rfl ?_
  refine K_istore (q := 8) (ll' := [(4, .inl ((nI 0))), (3, .inl (l2 * (nI 24))), (0, .inr (15, 0, 100)), (1, .inr (10, 0, u1)), (2, .inl (l2))]) dX10_expand_6 (by decide) rfl rfl ?_
  exact J_sub [2, 3, 4, 1, 0] (tX10_expand_8 u1 fu l2 (l2 * (nI 24)) (nI 0) M) rfl
theorem dX10_canComeBack_0 : decode cX10_canComeBack 0 = .ok (.aload_n 0, 1) := by decide +kernel
theorem dX10_canComeBack_1 : decode cX10_canComeBack 1 = .ok (.getfield 38, 3) := by decide +kernel
theorem dX10_canComeBack_4 : decode cX10_canComeBack 4 = .ok (.iconst 0, 1) := by decide +kernel
theorem dX10_canComeBack_5 : decode cX10_canComeBack 5 = .ok (.invokestatic 84, 3) := by decide +kernel
theorem dX10_canComeBack_8 : decode cX10_canComeBack 8 = .ok (.iconst 0, 1) := by decide +kernel
theorem dX10_canComeBack_9 : decode cX10_canComeBack 9 = .ok (.istore_n 1, 1) := by decide +kernel
theorem dX10_canComeBack_10 : decode cX10_canComeBack 10 = .ok (.iload_n 1, 1) := by decide +kernel
theorem dX10_canComeBack_11 : decode cX10_canComeBack 11 = .ok (.aload_n 0, 1) := by decide +kernel
theorem dX10_canComeBack_12 : decode cX10_canComeBack 12 = .ok (.getfield 74, 3) := by decide +kernel
theorem dX10_canComeBack_15 : decode cX10_canComeBack 15 = .ok (.if_icmp .ge 24, 3) := by decide +kernel
theorem dX10_canComeBack_18 : decode cX10_canComeBack 18 = .ok (.aload_n 0, 1) := by decide +kernel
theorem dX10_canComeBack_19 : decode cX10_canComeBack 19 = .ok (.getfield 38, 3) := by decide +kernel
theorem dX10_canComeBack_22 : decode cX10_canComeBack 22 = .ok (.aload_n 0, 1) := by decide +kernel
theorem dX10_canComeBack_23 : decode cX10_canComeBack 23 = .ok (.getfield 32, 3) := by decide +kernel
theorem dX10_canComeBack_26 : decode cX10_canComeBack 26 = .ok (.iload_n 1, 1) := by decide +kernel
theorem dX10_canComeBack_27 : decode cX10_canComeBack 27 = .ok (.iaload, 1) := by decide +kernel
theorem dX10_canComeBack_28 : decode cX10_canComeBack 28 = .ok (.dup2, 1) := by decide +kernel
theorem dX10_canComeBack_29 : decode cX10_canComeBack 29 = .ok (.iaload, 1) := by decide +kernel
theorem dX10_canComeBack_30 : decode cX10_canComeBack 30 = .ok (.iconst 1, 1) := by decide +kernel
theorem dX10_canComeBack_31 : decode cX10_canComeBack 31 = .ok (.iadd, 1) := by decide +kernel
theorem dX10_canComeBack_32 : decode cX10_canComeBack 32 = .ok (.iastore, 1) := by decide +kernel
theorem dX10_canComeBack_33 : decode cX10_canComeBack 33 = .ok (.iinc 1 1, 3) := by decide +kernel
theorem dX10_canComeBack_36 : decode cX10_canComeBack 36 = .ok (.goto (-26), 3) := by decide +kernel
theorem dX10_canComeBack_39 : decode cX10_canComeBack 39 = .ok (.iconst 0, 1) := by decide +kernel
theorem dX10_canComeBack_40 : decode cX10_canComeBack 40 = .ok (.istore_n 1, 1) := by decide +kernel
theorem dX10_canComeBack_41 : decode cX10_canComeBack 41 = .ok (.iconst 0, 1) := by decide +kernel
theorem dX10_canComeBack_42 : decode cX10_canComeBack 42 = .ok (.istore_n 2, 1) := by decide +kernel
theorem dX10_canComeBack_43 : decode cX10_canComeBack 43 = .ok (.iload_n 2, 1) := by decide +kernel
theorem dX10_canComeBack_44 : decode cX10_canComeBack 44 = .ok (.aload_n 0, 1) := by decide +kernel
theorem dX10_canComeBack_45 : decode cX10_canComeBack 45 = .ok (.getfield 55, 3) := by decide +kernel
theorem dX10_canComeBack_48 : decode cX10_canComeBack 48 = .ok (.if_icmp .ge 28, 3) := by decide +kernel
theorem dX10_canComeBack_51 : decode cX10_canComeBack 51 = .ok (.aload_n 0, 1) := by decide +kernel
theorem dX10_canComeBack_52 : decode cX10_canComeBack 52 = .ok (.getfield 38, 3) := by decide +kernel
theorem dX10_canComeBack_55 : decode cX10_canComeBack 55 = .ok (.iload_n 2, 1) := by decide +kernel
theorem dX10_canComeBack_56 : decode cX10_canComeBack 56 = .ok (.iaload, 1) := by decide +kernel
theorem dX10_canComeBack_57 : decode cX10_canComeBack 57 = .ok (.ifCond .ne 13, 3) := by decide +kernel
theorem dX10_canComeBack_60 : decode cX10_canComeBack 60 = .ok (.aload_n 0, 1) := by decide +kernel
theorem dX10_canComeBack_61 : decode cX10_canComeBack 61 = .ok (.getfield 41, 3) := by decide +kernel
theorem dX10_canComeBack_64 : decode cX10_canComeBack 64 = .ok (.iload_n 1, 1) := by decide +kernel
theorem dX10_canComeBack_65 : decode cX10_canComeBack 65 = .ok (.iload_n 2, 1) := by decide +kernel
theorem dX10_canComeBack_66 : decode cX10_canComeBack 66 = .ok (.iastore, 1) := by decide +kernel
theorem dX10_canComeBack_67 : decode cX10_canComeBack 67 = .ok (.iinc 1 1, 3) := by decide +kernel
theorem dX10_canComeBack_70 : decode cX10_canComeBack 70 = .ok (.iinc 2 1, 3) := by decide +kernel
theorem dX10_canComeBack_73 : decode cX10_canComeBack 73 = .ok (.goto (-30), 3) := by decide +kernel
theorem dX10_canComeBack_76 : decode cX10_canComeBack 76 = .ok (.iconst 0, 1) := by decide +kernel
theorem dX10_canComeBack_77 : decode cX10_canComeBack 77 = .ok (.istore_n 2, 1) := by decide +kernel
theorem dX10_canComeBack_78 : decode cX10_canComeBack 78 = .ok (.iload_n 2, 1) := by decide +kernel
theorem dX10_canComeBack_79 : decode cX10_canComeBack 79 = .ok (.iload_n 1, 1) := by decide +kernel
theorem dX10_canComeBack_80 : decode cX10_canComeBack 80 = .ok (.if_icmp .ge 105, 3) := by decide +kernel
theorem dX10_canComeBack_83 : decode cX10_canComeBack 83 = .ok (.iload_n 2, 1) := by decide +kernel
theorem dX10_canComeBack_84 : decode cX10_canComeBack 84 = .ok (.sipush 250, 3) := by decide +kernel
theorem dX10_canComeBack_87 : decode cX10_canComeBack 87 = .ok (.if_icmp .ge 98, 3) := by decide +kernel
theorem dX10_canComeBack_90 : decode cX10_canComeBack 90 = .ok (.aload_n 0, 1) := by decide +kernel
theorem dX10_canComeBack_91 : decode cX10_canComeBack 91 = .ok (.getfield 41, 3) := by decide +kernel
theorem dX10_canComeBack_94 : decode cX10_canComeBack 94 = .ok (.iload_n 2, 1) := by decide +kernel
theorem dX10_canComeBack_95 : decode cX10_canComeBack 95 = .ok (.iaload, 1) := by decide +kernel
theorem dX10_canComeBack_96 : decode cX10_canComeBack 96 = .ok (.istore_n 3, 1) := by decide +kernel
theorem dX10_canComeBack_97 : decode cX10_canComeBack 97 = .ok (.iload_n 3, 1) := by decide +kernel
theorem dX10_canComeBack_98 : decode cX10_canComeBack 98 = .ok (.ifCond .ne 7, 3) := by decide +kernel
theorem dX10_canComeBack_101 : decode cX10_canComeBack 101 = .ok (.iconst 0, 1) := by decide +kernel
theorem dX10_canComeBack_102 : decode cX10_canComeBack 102 = .ok (.goto 11, 3) := by decide +kernel
theorem dX10_canComeBack_105 : decode cX10_canComeBack 105 = .ok (.aload_n 0, 1) := by decide +kernel
theorem dX10_canComeBack_106 : decode cX10_canComeBack 106 = .ok (.getfield 35, 3) := by decide +kernel
theorem dX10_canComeBack_109 : decode cX10_canComeBack 109 = .ok (.iload_n 3, 1) := by decide +kernel
theorem dX10_canComeBack_110 : decode cX10_canComeBack 110 = .ok (.iconst 1, 1) := by decide +kernel
theorem dX10_canComeBack_111 : decode cX10_canComeBack 111 = .ok (.isub, 1) := by decide +kernel
theorem dX10_canComeBack_112 : decode cX10_canComeBack 112 = .ok (.iaload, 1) := by decide +kernel
theorem dX10_canComeBack_113 : decode cX10_canComeBack 113 = .ok (.istore 4, 2) := by decide +kernel
theorem dX10_canComeBack_115 : decode cX10_canComeBack 115 = .ok (.iload 4, 2) := by decide +kernel
theorem dX10_canComeBack_117 : decode cX10_canComeBack 117 = .ok (.aload_n 0, 1) := by decide +kernel
theorem dX10_canComeBack_118 : decode cX10_canComeBack 118 = .ok (.getfield 35, 3) := by decide +kernel
theorem dX10_canComeBack_121 : decode cX10_canComeBack 121 = .ok (.iload_n 3, 1) := by decide +kernel
theorem dX10_canComeBack_122 : decode cX10_canComeBack 122 = .ok (.iaload, 1) := by decide +kernel
theorem dX10_canComeBack_123 : decode cX10_canComeBack 123 = .ok (.if_icmp .ge 56, 3) := by decide +kernel
theorem dX10_canComeBack_126 : decode cX10_canComeBack 126 = .ok (.aload_n 0, 1) := by decide +kernel
theorem dX10_canComeBack_127 : decode cX10_canComeBack 127 = .ok (.getfield 38, 3) := by decide +kernel
theorem dX10_canComeBack_130 : decode cX10_canComeBack 130 = .ok (.aload_n 0, 1) := by decide +kernel
theorem dX10_canComeBack_131 : decode cX10_canComeBack 131 = .ok (.getfield 32, 3) := by decide +kernel
theorem dX10_canComeBack_134 : decode cX10_canComeBack 134 = .ok (.iload 4, 2) := by decide +kernel
theorem dX10_canComeBack_136 : decode cX10_canComeBack 136 = .ok (.iaload, 1) := by decide +kernel
theorem dX10_canComeBack_137 : decode cX10_canComeBack 137 = .ok (.dup2, 1) := by decide +kernel
theorem dX10_canComeBack_138 : decode cX10_canComeBack 138 = .ok (.iaload, 1) := by decide +kernel
theorem dX10_canComeBack_139 : decode cX10_canComeBack 139 = .ok (.iconst 1, 1) := by decide +kernel
theorem dX10_canComeBack_140 : decode cX10_canComeBack 140 = .ok (.isub, 1) := by decide +kernel
theorem dX10_canComeBack_141 : decode cX10_canComeBack 141 = .ok (.iastore, 1) := by decide +kernel
theorem dX10_canComeBack_142 : decode cX10_canComeBack 142 = .ok (.aload_n 0, 1) := by decide +kernel
theorem dX10_canComeBack_143 : decode cX10_canComeBack 143 = .ok (.getfield 38, 3) := by decide +kernel
theorem dX10_canComeBack_146 : decode cX10_canComeBack 146 = .ok (.aload_n 0, 1) := by decide +kernel
theorem dX10_canComeBack_147 : decode cX10_canComeBack 147 = .ok (.getfield 32, 3) := by decide +kernel
theorem dX10_canComeBack_150 : decode cX10_canComeBack 150 = .ok (.iload 4, 2) := by decide +kernel
theorem dX10_canComeBack_152 : decode cX10_canComeBack 152 = .ok (.iaload, 1) := by decide +kernel
theorem dX10_canComeBack_153 : decode cX10_canComeBack 153 = .ok (.iaload, 1) := by decide +kernel
theorem dX10_canComeBack_154 : decode cX10_canComeBack 154 = .ok (.ifCond .ne 19, 3) := by decide +kernel
theorem dX10_canComeBack_157 : decode cX10_canComeBack 157 = .ok (.aload_n 0, 1) := by decide +kernel
theorem dX10_canComeBack_158 : decode cX10_canComeBack 158 = .ok (.getfield 41, 3) := by decide +kernel
theorem dX10_canComeBack_161 : decode cX10_canComeBack 161 = .ok (.iload_n 1, 1) := by decide +kernel
theorem dX10_canComeBack_162 : decode cX10_canComeBack 162 = .ok (.aload_n 0, 1) := by decide +kernel
theorem dX10_canComeBack_163 : decode cX10_canComeBack 163 = .ok (.getfield 32, 3) := by decide +kernel
theorem dX10_canComeBack_166 : decode cX10_canComeBack 166 = .ok (.iload 4, 2) := by decide +kernel
theorem dX10_canComeBack_168 : decode cX10_canComeBack 168 = .ok (.iaload, 1) := by decide +kernel
theorem dX10_canComeBack_169 : decode cX10_canComeBack 169 = .ok (.iastore, 1) := by decide +kernel
theorem dX10_canComeBack_170 : decode cX10_canComeBack 170 = .ok (.iinc 1 1, 3) := by decide +kernel
theorem dX10_canComeBack_173 : decode cX10_canComeBack 173 = .ok (.iinc 4 1, 3) := by decide +kernel
theorem dX10_canComeBack_176 : decode cX10_canComeBack 176 = .ok (.goto (-61), 3) := by decide +kernel
theorem dX10_canComeBack_179 : decode cX10_canComeBack 179 = .ok (.iinc 2 1, 3) := by decide +kernel
theorem dX10_canComeBack_182 : decode cX10_canComeBack 182 = .ok (.goto (-104), 3) := by decide +kernel
theorem dX10_canComeBack_185 : decode cX10_canComeBack 185 = .ok (.iload_n 1, 1) := by decide +kernel
theorem dX10_canComeBack_186 : decode cX10_canComeBack 186 = .ok (.aload_n 0, 1) := by decide +kernel
theorem dX10_canComeBack_187 : decode cX10_canComeBack 187 = .ok (.getfield 55, 3) := by decide +kernel
theorem dX10_canComeBack_190 : decode cX10_canComeBack 190 = .ok (.if_icmp .ge 7, 3) := by decide +kernel
theorem dX10_canComeBack_193 : decode cX10_canComeBack 193 = .ok (.iconst 1, 1) := by decide +kernel
theorem dX10_canComeBack_194 : decode cX10_canComeBack 194 = .ok (.goto 4, 3) := by decide +kernel
theorem dX10_canComeBack_197 : decode cX10_canComeBack 197 = .ok (.iconst 0, 1) := by decide +kernel
theorem dX10_canComeBack_198 : decode cX10_canComeBack 198 = .ok (.ireturn, 1) := by decide +kernel
def xX10_canComeBack_185   (l1 : Int32) (M : j_M) : Option (Int32 × j_M) := oli (M 100 10) fun v1 => (if v1 ≤ l1 then some ((nI 0), M) else some ((nI 1), M))
set_option maxRecDepth 20000 in
set_option maxHeartbeats 2000000 in
theorem tX10_canComeBack_185    (l1 : Int32) (M : j_M) : J (ρ := Int32 × j_M) yX10_canComeBack cX10_canComeBack 5 (some .boolean) 1 23 j_ei 185 [(0, .inr (15, 0, 100)), (1, .inl (l1))] [] M (xX10_canComeBack_185  l1 M) := by
  unfold xX10_canComeBack_185
  refine K_iload_n (q := 186) 1 dX10_canComeBack_185 rfl rfl rfl ?_
  refine K_aload_n (q := 187) 0 dX10_canComeBack_186 rfl rfl rfl ?_
  refine K_getI (q := 190) (ci := 5) 10 dX10_canComeBack_187 fRX10_55 rfl rfl rfl (fun v1 => ?_)
  refine K_icmp_ge (q := 193) (tgt := 197) dX10_canComeBack_190 rfl ?_ rfl ?_
  · refine K_iconst (q := 198) (v := nI 0) dX10_canComeBack_197 rfl rfl ?_
    exact J_zret dX10_canComeBack_198 (by decide)
  · refine K_iconst (q := 194) (v := nI 1) dX10_canComeBack_193 rfl rfl ?_
    refine J_goto (tgt := 198) dX10_canComeBack_194 rfl ?_
    exact J_zret dX10_canComeBack_198 (by decide)
def xX10_canComeBack_115 (k78 : Int32 → Int32 → j_M → Option (Int32 × j_M))  : Nat → Int32 → Int32 → Int32 → Int32 → j_M → Option (Int32 × j_M)
  | 0, _, _, _, _, _ => none
  | n + 1, l1, l2, l3, l4, M => gd l3 250 (oli (M 108 (ix l3)) fun v1 => (if v1 ≤ l4 then k78 l1 (l2 + (nI 1)) M else gd l4 6000 (oli (M 107 (ix l4)) fun v2 => gd v2 250 (oli (M 109 (ix v2)) fun v3 => gd v2 250 (oml (mw M 109 (ix v2) (v3 - (nI 1))) fun M4 => gd l4 6000 (oli (M4 107 (ix l4)) fun v5 => gd v5 250 (oli (M4 109 (ix v5)) fun v6 => (if v6 = (0 : Int32) then gd l4 6000 (oli (M4 107 (ix l4)) fun v7 => gd l1 250 (oml (mw M4 110 (ix l1) v7) fun M8 => xX10_canComeBack_115 k78 n (l1 + (nI 1)) l2 l3 (l4 + (nI 1)) M8)) else xX10_canComeBack_115 k78 n l1 l2 l3 (l4 + (nI 1)) M4))))))))
set_option maxRecDepth 20000 in
set_option maxHeartbeats 2000000 in
theorem tX10_canComeBack_115 (k78 : Int32 → Int32 → j_M → Option (Int32 × j_M))  (hk78 : ∀ (l1 : Int32) (l2 : Int32) (M : j_M), J (ρ := Int32 × j_M) yX10_canComeBack cX10_canComeBack 5 (some .boolean) 1 23 j_ei 78 [(0, .inr (15, 0, 100)), (1, .inl (l1)), (2, .inl (l2))] [] M (k78 l1 l2 M)) : ∀ (n : Nat) (l1 : Int32) (l2 : Int32) (l3 : Int32) (l4 : Int32) (M : j_M), J (ρ := Int32 × j_M) yX10_canComeBack cX10_canComeBack 5 (some .boolean) 1 23 j_ei 115 [(0, .inr (15, 0, 100)), (1, .inl (l1)), (2, .inl (l2)), (3, .inl (l3)), (4, .inl (l4))] [] M (xX10_canComeBack_115 k78 n l1 l2 l3 l4 M) := by
  intro n
  induction n with
  | zero => intros; exact J_none
  | succ n ih =>
    intro l1 l2 l3 l4 M
    rw [xX10_canComeBack_115.eq_2]
    refine K_iload (q := 117) 4 dX10_canComeBack_115 rfl rfl ?_
    refine K_aload_n (q := 118) 0 dX10_canComeBack_117 rfl rfl rfl ?_
    refine K_getR (q := 121) (ci := 5) (a2 := 108) 7 dX10_canComeBack_118 fRX10_35 rfl rfl (by decide) rfl rfl ?_
    refine K_iload_n (q := 122) 3 dX10_canComeBack_121 rfl rfl rfl ?_
    refine K_iald (q := 123) dX10_canComeBack_122 rfl (fun v1 => ?_)
    refine K_icmp_ge (q := 126) (tgt := 179) dX10_canComeBack_123 rfl ?_ rfl ?_
    · refine K_iinc (q := 182) (v := l2 + (nI 1)) (ll' := [(2, .inl (l2 + (nI 1))), (0, .inr (15, 0, 100)), (1, .inl (l1)), (3, .inl (l3)), (4, .inl (l4))]) 2 dX10_canComeBack_179 rfl rfl (by decide) rfl rfl ?_
      refine J_goto (tgt := 78) dX10_canComeBack_182 rfl ?_
      exact J_sub [1, 2, 0] (hk78 l1 (l2 + (nI 1)) M) rfl
    · refine K_aload_n (q := 127) 0 dX10_canComeBack_126 rfl rfl rfl ?_
      refine K_getR (q := 130) (ci := 5) (a2 := 109) 8 dX10_canComeBack_127 fRX10_38 rfl rfl (by decide) rfl rfl ?_
      refine K_aload_n (q := 131) 0 dX10_canComeBack_130 rfl rfl rfl ?_
      refine K_getR (q := 134) (ci := 5) (a2 := 107) 6 dX10_canComeBack_131 fRX10_32 rfl rfl (by decide) rfl rfl ?_
      refine K_iload (q := 136) 4 dX10_canComeBack_134 rfl rfl ?_
      refine K_iald (q := 137) dX10_canComeBack_136 rfl (fun v2 => ?_)
      refine K_dup2 (q := 138) dX10_canComeBack_137 rfl ?_
      refine K_iald (q := 139) dX10_canComeBack_138 rfl (fun v3 => ?_)
      refine K_iconst (q := 140) (v := nI 1) dX10_canComeBack_139 rfl rfl ?_
      refine K_isub (q := 141) dX10_canComeBack_140 rfl ?_
      refine K_iast (q := 142) dX10_canComeBack_141 rfl (fun M4 => ?_)
      refine K_aload_n (q := 143) 0 dX10_canComeBack_142 rfl rfl rfl ?_
      refine K_getR (q := 146) (ci := 5) (a2 := 109) 8 dX10_canComeBack_143 fRX10_38 rfl rfl (by decide) rfl rfl ?_
      refine K_aload_n (q := 147) 0 dX10_canComeBack_146 rfl rfl rfl ?_
      refine K_getR (q := 150) (ci := 5) (a2 := 107) 6 dX10_canComeBack_147 fRX10_32 rfl rfl (by decide) rfl rfl ?_
      refine K_iload (q := 152) 4 dX10_canComeBack_150 rfl rfl ?_
      refine K_iald (q := 153) dX10_canComeBack_152 rfl (fun v5 => ?_)
      refine K_iald (q := 154) dX10_canComeBack_153 rfl (fun v6 => ?_)
      refine K_if_ne (q := 157) (tgt := 173) dX10_canComeBack_154 rfl ?_ rfl ?_
      · refine K_iinc (q := 176) (v := l4 + (nI 1)) (ll' := [(4, .inl (l4 + (nI 1))), (0, .inr (15, 0, 100)), (1, .inl (l1)), (2, .inl (l2)), (3, .inl (l3))]) 4 dX10_canComeBack_173 rfl rfl (by decide) rfl rfl ?_
        refine J_goto (tgt := 115) dX10_canComeBack_176 rfl ?_
        exact J_sub [1, 2, 3, 4, 0] (ih l1 l2 l3 (l4 + (nI 1)) M4) rfl
      · refine K_aload_n (q := 158) 0 dX10_canComeBack_157 rfl rfl rfl ?_
        refine K_getR (q := 161) (ci := 5) (a2 := 110) 9 dX10_canComeBack_158 fRX10_41 rfl rfl (by decide) rfl rfl ?_
        refine K_iload_n (q := 162) 1 dX10_canComeBack_161 rfl rfl rfl ?_
        refine K_aload_n (q := 163) 0 dX10_canComeBack_162 rfl rfl rfl ?_
        refine K_getR (q := 166) (ci := 5) (a2 := 107) 6 dX10_canComeBack_163 fRX10_32 rfl rfl (by decide) rfl rfl ?_
        refine K_iload (q := 168) 4 dX10_canComeBack_166 rfl rfl ?_
        refine K_iald (q := 169) dX10_canComeBack_168 rfl (fun v7 => ?_)
        refine K_iast (q := 170) dX10_canComeBack_169 rfl (fun M8 => ?_)
        refine K_iinc (q := 173) (v := l1 + (nI 1)) (ll' := [(1, .inl (l1 + (nI 1))), (0, .inr (15, 0, 100)), (2, .inl (l2)), (3, .inl (l3)), (4, .inl (l4))]) 1 dX10_canComeBack_170 rfl rfl (by decide) rfl rfl ?_
        refine K_iinc (q := 176) (v := l4 + (nI 1)) (ll' := [(4, .inl (l4 + (nI 1))), (1, .inl (l1 + (nI 1))), (0, .inr (15, 0, 100)), (2, .inl (l2)), (3, .inl (l3))]) 4 dX10_canComeBack_173 rfl rfl (by decide) rfl rfl ?_
        refine J_goto (tgt := 115) dX10_canComeBack_176 rfl ?_
        exact J_sub [2, 1, 3, 4, 0] (ih (l1 + (nI 1)) l2 l3 (l4 + (nI 1)) M8) rfl
def xX10_canComeBack_113 (k78 : Int32 → Int32 → j_M → Option (Int32 × j_M))  (l1 : Int32) (l2 : Int32) (l3 : Int32) (s0 : Int32) (M : j_M) : Option (Int32 × j_M) := xX10_canComeBack_115 k78 fu l1 l2 l3 s0 M
set_option maxRecDepth 20000 in
set_option maxHeartbeats 2000000 in
theorem tX10_canComeBack_113 (k78 : Int32 → Int32 → j_M → Option (Int32 × j_M))  (hk78 : ∀ (l1 : Int32) (l2 : Int32) (M : j_M), J (ρ := Int32 × j_M) yX10_canComeBack cX10_canComeBack 5 (some .boolean) 1 23 j_ei 78 [(0, .inr (15, 0, 100)), (1, .inl (l1)), (2, .inl (l2))] [] M (k78 l1 l2 M)) (l1 : Int32) (l2 : Int32) (l3 : Int32) (s0 : Int32) (M : j_M) : J (ρ := Int32 × j_M) yX10_canComeBack cX10_canComeBack 5 (some .boolean) 1 23 j_ei 113 [(0, .inr (15, 0, 100)), (1, .inl (l1)), (2, .inl (l2)), (3, .inl (l3))] [.inl (s0)] M (xX10_canComeBack_113 k78 l1 l2 l3 s0 M) := by
  unfold xX10_canComeBack_113
  refine K_istore (q := 115) (ll' := [(4, .inl (s0)), (0, .inr (15, 0, 100)), (1, .inl (l1)), (2, .inl (l2)), (3, .inl (l3))]) dX10_canComeBack_113 (by decide) rfl rfl ?_
  exact J_sub [1, 2, 3, 4, 0] (tX10_canComeBack_115 k78 hk78 fu l1 l2 l3 s0 M) rfl
def xX10_canComeBack_78   : Nat → Int32 → Int32 → j_M → Option (Int32 × j_M)
  | 0, _, _, _ => none
  | n + 1, l1, l2, M => (if l1 ≤ l2 then xX10_canComeBack_185  l1 M else (if (nI 250) ≤ l2 then xX10_canComeBack_185  l1 M else gd l2 250 (oli (M 110 (ix l2)) fun v1 => (if v1 = (0 : Int32) then xX10_canComeBack_113 (xX10_canComeBack_78  n) l1 l2 v1 (nI 0) M else gd (v1 - (nI 1)) 250 (oli (M 108 (ix (v1 - (nI 1)))) fun v2 => xX10_canComeBack_113 (xX10_canComeBack_78  n) l1 l2 v1 v2 M)))))
set_option maxRecDepth 20000 in
set_option maxHeartbeats 2000000 in
theorem tX10_canComeBack_78    : ∀ (n : Nat) (l1 : Int32) (l2 : Int32) (M : j_M), J (ρ := Int32 × j_M) yX10_canComeBack cX10_canComeBack 5 (some .boolean) 1 23 j_ei 78 [(0, .inr (15, 0, 100)), (1, .inl (l1)), (2, .inl (l2))] [] M (xX10_canComeBack_78  n l1 l2 M) := by
  intro n
  induction n with
  | zero => intros; exact J_none
  | succ n ih =>
    intro l1 l2 M
    rw [xX10_canComeBack_78.eq_2]
    refine K_iload_n (q := 79) 2 dX10_canComeBack_78 rfl rfl rfl ?_
    refine K_iload_n (q := 80) 1 dX10_canComeBack_79 rfl rfl rfl ?_
    refine K_icmp_ge (q := 83) (tgt := 185) dX10_canComeBack_80 rfl ?_ rfl ?_
    · exact J_sub [0, 1] (tX10_canComeBack_185  l1 M) rfl
    · refine K_iload_n (q := 84) 2 dX10_canComeBack_83 rfl rfl rfl ?_
      refine K_sipush (q := 87) (v := nI 250) dX10_canComeBack_84 rfl rfl ?_
      refine K_icmp_ge (q := 90) (tgt := 185) dX10_canComeBack_87 rfl ?_ rfl ?_
      · exact J_sub [0, 1] (tX10_canComeBack_185  l1 M) rfl
      · refine K_aload_n (q := 91) 0 dX10_canComeBack_90 rfl rfl rfl ?_
        refine K_getR (q := 94) (ci := 5) (a2 := 110) 9 dX10_canComeBack_91 fRX10_41 rfl rfl (by decide) rfl rfl ?_
        refine K_iload_n (q := 95) 2 dX10_canComeBack_94 rfl rfl rfl ?_
        refine K_iald (q := 96) dX10_canComeBack_95 rfl (fun v1 => ?_)
        refine K_istore_n (q := 97) (ll' := [(3, .inl (v1)), (0, .inr (15, 0, 100)), (1, .inl (l1)), (2, .inl (l2))]) dX10_canComeBack_96 rfl (by decide) rfl rfl ?_
        refine K_iload_n (q := 98) 0 dX10_canComeBack_97 rfl rfl rfl ?_
        refine K_if_ne (q := 101) (tgt := 105) dX10_canComeBack_98 rfl ?_ rfl ?_
        · refine K_aload_n (q := 106) 1 dX10_canComeBack_105 rfl rfl rfl ?_
          refine K_getR (q := 109) (ci := 5) (a2 := 108) 7 dX10_canComeBack_106 fRX10_35 rfl rfl (by decide) rfl rfl ?_
          refine K_iload_n (q := 110) 0 dX10_canComeBack_109 rfl rfl rfl ?_
          refine K_iconst (q := 111) (v := nI 1) dX10_canComeBack_110 rfl rfl ?_
          refine K_isub (q := 112) dX10_canComeBack_111 rfl ?_
          refine K_iald (q := 113) dX10_canComeBack_112 rfl (fun v2 => ?_)
          exact J_sub [1, 2, 3, 0] (tX10_canComeBack_113 (xX10_canComeBack_78  n) ih l1 l2 v1 v2 M) rfl
        · refine K_iconst (q := 102) (v := nI 0) dX10_canComeBack_101 rfl rfl ?_
          refine J_goto (tgt := 113) dX10_canComeBack_102 rfl ?_
          exact J_sub [1, 2, 3, 0] (tX10_canComeBack_113 (xX10_canComeBack_78  n) ih l1 l2 v1 (nI 0) M) rfl
def xX10_canComeBack_43   : Nat → Int32 → Int32 → j_M → Option (Int32 × j_M)
  | 0, _, _, _ => none
  | n + 1, l1, l2, M => oli (M 100 10) fun v1 => (if v1 ≤ l2 then xX10_canComeBack_78 fu l1 (nI 0) M else gd l2 250 (oli (M 109 (ix l2)) fun v2 => (if v2 = (0 : Int32) then gd l1 250 (oml (mw M 110 (ix l1) l2) fun M3 => xX10_canComeBack_43  n (l1 + (nI 1)) (l2 + (nI 1)) M3) else xX10_canComeBack_43  n l1 (l2 + (nI 1)) M)))
set_option maxRecDepth 20000 in
set_option maxHeartbeats 2000000 in
theorem tX10_canComeBack_43    : ∀ (n : Nat) (l1 : Int32) (l2 : Int32) (M : j_M), J (ρ := Int32 × j_M) yX10_canComeBack cX10_canComeBack 5 (some .boolean) 1 23 j_ei 43 [(0, .inr (15, 0, 100)), (1, .inl (l1)), (2, .inl (l2))] [] M (xX10_canComeBack_43  n l1 l2 M) := by
  intro n
  induction n with
  | zero => intros; exact J_none
  | succ n ih =>
    intro l1 l2 M
    rw [xX10_canComeBack_43.eq_2]
    refine K_iload_n (q := 44) 2 dX10_canComeBack_43 rfl rfl rfl ?_
    refine K_aload_n (q := 45) 0 dX10_canComeBack_44 rfl rfl rfl ?_
    refine K_getI (q := 48) (ci := 5) 10 dX10_canComeBack_45 fRX10_55 rfl rfl rfl (fun v1 => ?_)
    refine K_icmp_ge (q := 51) (tgt := 76) dX10_canComeBack_48 rfl ?_ rfl ?_
    · refine K_iconst (q := 77) (v := nI 0) dX10_canComeBack_76 rfl rfl ?_
      refine K_istore_n (q := 78) (ll' := [(2, .inl ((nI 0))), (0, .inr (15, 0, 100)), (1, .inl (l1))]) dX10_canComeBack_77 rfl (by decide) rfl rfl ?_
      exact J_sub [1, 2, 0] (tX10_canComeBack_78 fu l1 (nI 0) M) rfl
    · refine K_aload_n (q := 52) 0 dX10_canComeBack_51 rfl rfl rfl ?_
      refine K_getR (q := 55) (ci := 5) (a2 := 109) 8 dX10_canComeBack_52 fRX10_38 rfl rfl (by decide) rfl rfl ?_
      refine K_iload_n (q := 56) 2 dX10_canComeBack_55 rfl rfl rfl ?_
      refine K_iald (q := 57) dX10_canComeBack_56 rfl (fun v2 => ?_)
      refine K_if_ne (q := 60) (tgt := 70) dX10_canComeBack_57 rfl ?_ rfl ?_
      · refine K_iinc (q := 73) (v := l2 + (nI 1)) (ll' := [(2, .inl (l2 + (nI 1))), (0, .inr (15, 0, 100)), (1, .inl (l1))]) 2 dX10_canComeBack_70 rfl rfl (by decide) rfl rfl ?_
        refine J_goto (tgt := 43) dX10_canComeBack_73 rfl ?_
        exact J_sub [1, 2, 0] (ih l1 (l2 + (nI 1)) M) rfl
      · refine K_aload_n (q := 61) 0 dX10_canComeBack_60 rfl rfl rfl ?_
        refine K_getR (q := 64) (ci := 5) (a2 := 110) 9 dX10_canComeBack_61 fRX10_41 rfl rfl (by decide) rfl rfl ?_
        refine K_iload_n (q := 65) 1 dX10_canComeBack_64 rfl rfl rfl ?_
        refine K_iload_n (q := 66) 2 dX10_canComeBack_65 rfl rfl rfl ?_
        refine K_iast (q := 67) dX10_canComeBack_66 rfl (fun M3 => ?_)
        refine K_iinc (q := 70) (v := l1 + (nI 1)) (ll' := [(1, .inl (l1 + (nI 1))), (0, .inr (15, 0, 100)), (2, .inl (l2))]) 1 dX10_canComeBack_67 rfl rfl (by decide) rfl rfl ?_
        refine K_iinc (q := 73) (v := l2 + (nI 1)) (ll' := [(2, .inl (l2 + (nI 1))), (1, .inl (l1 + (nI 1))), (0, .inr (15, 0, 100))]) 2 dX10_canComeBack_70 rfl rfl (by decide) rfl rfl ?_
        refine J_goto (tgt := 43) dX10_canComeBack_73 rfl ?_
        exact J_sub [2, 1, 0] (ih (l1 + (nI 1)) (l2 + (nI 1)) M3) rfl
def xX10_canComeBack_10   : Nat → Int32 → j_M → Option (Int32 × j_M)
  | 0, _, _ => none
  | n + 1, l1, M => oli (M 100 11) fun v1 => (if v1 ≤ l1 then xX10_canComeBack_43 fu (nI 0) (nI 0) M else gd l1 6000 (oli (M 107 (ix l1)) fun v2 => gd v2 250 (oli (M 109 (ix v2)) fun v3 => gd v2 250 (oml (mw M 109 (ix v2) (v3 + (nI 1))) fun M4 => xX10_canComeBack_10  n (l1 + (nI 1)) M4))))
set_option maxRecDepth 20000 in
set_option maxHeartbeats 2000000 in
theorem tX10_canComeBack_10    : ∀ (n : Nat) (l1 : Int32) (M : j_M), J (ρ := Int32 × j_M) yX10_canComeBack cX10_canComeBack 5 (some .boolean) 1 23 j_ei 10 [(0, .inr (15, 0, 100)), (1, .inl (l1))] [] M (xX10_canComeBack_10  n l1 M) := by
  intro n
  induction n with
  | zero => intros; exact J_none
  | succ n ih =>
    intro l1 M
    rw [xX10_canComeBack_10.eq_2]
    refine K_iload_n (q := 11) 1 dX10_canComeBack_10 rfl rfl rfl ?_
    refine K_aload_n (q := 12) 0 dX10_canComeBack_11 rfl rfl rfl ?_
    refine K_getI (q := 15) (ci := 5) 11 dX10_canComeBack_12 fRX10_74 rfl rfl rfl (fun v1 => ?_)
    refine K_icmp_ge (q := 18) (tgt := 39) dX10_canComeBack_15 rfl ?_ rfl ?_
    · refine K_iconst (q := 40) (v := nI 0) dX10_canComeBack_39 rfl rfl ?_
      refine K_istore_n (q := 41) (ll' := [(1, .inl ((nI 0))), (0, .inr (15, 0, 100))]) dX10_canComeBack_40 rfl (by decide) rfl rfl ?_
      refine K_iconst (q := 42) (v := nI 0) dX10_canComeBack_41 rfl rfl ?_
      refine K_istore_n (q := 43) (ll' := [(2, .inl ((nI 0))), (1, .inl ((nI 0))), (0, .inr (15, 0, 100))]) dX10_canComeBack_42 rfl (by decide) rfl rfl ?_
      exact J_sub [2, 1, 0] (tX10_canComeBack_43 fu (nI 0) (nI 0) M) rfl
    · refine K_aload_n (q := 19) 0 dX10_canComeBack_18 rfl rfl rfl ?_
      refine K_getR (q := 22) (ci := 5) (a2 := 109) 8 dX10_canComeBack_19 fRX10_38 rfl rfl (by decide) rfl rfl ?_
      refine K_aload_n (q := 23) 0 dX10_canComeBack_22 rfl rfl rfl ?_
      refine K_getR (q := 26) (ci := 5) (a2 := 107) 6 dX10_canComeBack_23 fRX10_32 rfl rfl (by decide) rfl rfl ?_
      refine K_iload_n (q := 27) 1 dX10_canComeBack_26 rfl rfl rfl ?_
      refine K_iald (q := 28) dX10_canComeBack_27 rfl (fun v2 => ?_)
      refine K_dup2 (q := 29) dX10_canComeBack_28 rfl ?_
      refine K_iald (q := 30) dX10_canComeBack_29 rfl (fun v3 => ?_)
      refine K_iconst (q := 31) (v := nI 1) dX10_canComeBack_30 rfl rfl ?_
      refine K_iadd (q := 32) dX10_canComeBack_31 rfl ?_
      refine K_iast (q := 33) dX10_canComeBack_32 rfl (fun M4 => ?_)
      refine K_iinc (q := 36) (v := l1 + (nI 1)) (ll' := [(1, .inl (l1 + (nI 1))), (0, .inr (15, 0, 100))]) 1 dX10_canComeBack_33 rfl rfl (by decide) rfl rfl ?_
      refine J_goto (tgt := 10) dX10_canComeBack_36 rfl ?_
      exact J_sub [1, 0] (ih (l1 + (nI 1)) M4) rfl
def xX10_canComeBack   (M : j_M) : Option (Int32 × j_M) := obv (xJ7_fill_53178 250 109 (nI 0) M) fun M1 => xX10_canComeBack_10 fu (nI 0) M1
set_option maxRecDepth 20000 in
set_option maxHeartbeats 2000000 in
theorem tX10_canComeBack   (M : j_M) : J (ρ := Int32 × j_M) yX10_canComeBack cX10_canComeBack 5 (some .boolean) 1 23 j_ei 0 [(0, .inr (15, 0, 100))] [] M (xX10_canComeBack   M) := by
  unfold xX10_canComeBack
  refine K_aload_n (q := 1) 0 dX10_canComeBack_0 rfl rfl rfl ?_
  refine K_getR (q := 4) (ci := 5) (a2 := 109) 8 dX10_canComeBack_1 fRX10_38 rfl rfl (by decide) rfl rfl ?_
  refine K_iconst (q := 5) (v := nI 0) dX10_canComeBack_4 rfl rfl ?_
  refine K_csv (q := 8) [.inr (1, 250, 109), .inl ((nI 0))] dX10_canComeBack_5 cb_J7_fill_53178 cvRX10_84 rfl (Nat.le_of_ble_eq_true rfl) ⟨by decide, by decide⟩ (Nat.le_of_ble_eq_true rfl) rfl (tJ7_fill_53178 250 109 (nI 0) M) rfl (fun M1 => ?_)
  refine K_iconst (q := 9) (v := nI 0) dX10_canComeBack_8 rfl rfl ?_
  refine K_istore_n (q := 10) (ll' := [(1, .inl ((nI 0))), (0, .inr (15, 0, 100))]) dX10_canComeBack_9 rfl (by decide) rfl rfl ?_
  exact J_sub [1, 0] (tX10_canComeBack_10 fu (nI 0) M1) rfl
theorem dX10_hasMiss_0 : decode cX10_hasMiss 0 = .ok (.iload_n 1, 1) := by decide +kernel
theorem dX10_hasMiss_1 : decode cX10_hasMiss 1 = .ok (.bipush 112, 2) := by decide +kernel
theorem dX10_hasMiss_3 : decode cX10_hasMiss 3 = .ok (.imul, 1) := by decide +kernel
theorem dX10_hasMiss_4 : decode cX10_hasMiss 4 = .ok (.bipush 15, 2) := by decide +kernel
theorem dX10_hasMiss_6 : decode cX10_hasMiss 6 = .ok (.iadd, 1) := by decide +kernel
theorem dX10_hasMiss_7 : decode cX10_hasMiss 7 = .ok (.istore_n 2, 1) := by decide +kernel
theorem dX10_hasMiss_8 : decode cX10_hasMiss 8 = .ok (.iconst 0, 1) := by decide +kernel
theorem dX10_hasMiss_9 : decode cX10_hasMiss 9 = .ok (.istore_n 3, 1) := by decide +kernel
theorem dX10_hasMiss_10 : decode cX10_hasMiss 10 = .ok (.iload_n 3, 1) := by decide +kernel
theorem dX10_hasMiss_11 : decode cX10_hasMiss 11 = .ok (.aload_n 0, 1) := by decide +kernel
theorem dX10_hasMiss_12 : decode cX10_hasMiss 12 = .ok (.getfield 61, 3) := by decide +kernel
theorem dX10_hasMiss_15 : decode cX10_hasMiss 15 = .ok (.if_icmp .ge 25, 3) := by decide +kernel
theorem dX10_hasMiss_18 : decode cX10_hasMiss 18 = .ok (.aload_n 0, 1) := by decide +kernel
theorem dX10_hasMiss_19 : decode cX10_hasMiss 19 = .ok (.getfield 17, 3) := by decide +kernel
theorem dX10_hasMiss_22 : decode cX10_hasMiss 22 = .ok (.iload_n 2, 1) := by decide +kernel
theorem dX10_hasMiss_23 : decode cX10_hasMiss 23 = .ok (.iload_n 3, 1) := by decide +kernel
theorem dX10_hasMiss_24 : decode cX10_hasMiss 24 = .ok (.invokestatic 124, 3) := by decide +kernel
theorem dX10_hasMiss_27 : decode cX10_hasMiss 27 = .ok (.iadd, 1) := by decide +kernel
theorem dX10_hasMiss_28 : decode cX10_hasMiss 28 = .ok (.iaload, 1) := by decide +kernel
theorem dX10_hasMiss_29 : decode cX10_hasMiss 29 = .ok (.ifCond .eq 5, 3) := by decide +kernel
theorem dX10_hasMiss_32 : decode cX10_hasMiss 32 = .ok (.iconst 1, 1) := by decide +kernel
theorem dX10_hasMiss_33 : decode cX10_hasMiss 33 = .ok (.ireturn, 1) := by decide +kernel
theorem dX10_hasMiss_34 : decode cX10_hasMiss 34 = .ok (.iinc 3 1, 3) := by decide +kernel
theorem dX10_hasMiss_37 : decode cX10_hasMiss 37 = .ok (.goto (-27), 3) := by decide +kernel
theorem dX10_hasMiss_40 : decode cX10_hasMiss 40 = .ok (.iconst 0, 1) := by decide +kernel
theorem dX10_hasMiss_41 : decode cX10_hasMiss 41 = .ok (.ireturn, 1) := by decide +kernel
def xX10_hasMiss_10   : Nat → Int32 → Int32 → j_M → Option (Int32 × j_M)
  | 0, _, _, _ => none
  | n + 1, l2, l3, M => oli (M 100 12) fun v1 => (if v1 ≤ l3 then some ((nI 0), M) else obi (xX1_blockOf l3 M) fun v3 M2 => gd (l2 + v3) 28000 (oli (M2 102 (ix (l2 + v3))) fun v4 => (if v4 = (0 : Int32) then xX10_hasMiss_10  n l2 (l3 + (nI 1)) M2 else some ((nI 1), M2))))
set_option maxRecDepth 20000 in
set_option maxHeartbeats 2000000 in
theorem tX10_hasMiss_10    : ∀ (n : Nat) (l2 : Int32) (l3 : Int32) (M : j_M), J (ρ := Int32 × j_M) yX10_hasMiss cX10_hasMiss 4 (some .boolean) 1 20 j_ei 10 [(0, .inr (15, 0, 100)), (2, .inl (l2)), (3, .inl (l3))] [] M (xX10_hasMiss_10  n l2 l3 M) := by
  intro n
  induction n with
  | zero => intros; exact J_none
  | succ n ih =>
    intro l2 l3 M
    rw [xX10_hasMiss_10.eq_2]
    refine K_iload_n (q := 11) 2 dX10_hasMiss_10 rfl rfl rfl ?_
    refine K_aload_n (q := 12) 0 dX10_hasMiss_11 rfl rfl rfl ?_
    refine K_getI (q := 15) (ci := 5) 12 dX10_hasMiss_12 fRX10_61 rfl rfl rfl (fun v1 => ?_)
    refine K_icmp_ge (q := 18) (tgt := 40) dX10_hasMiss_15 rfl ?_ rfl ?_
    · refine K_iconst (q := 41) (v := nI 0) dX10_hasMiss_40 rfl rfl ?_
      exact J_zret dX10_hasMiss_41 (by decide)
    · refine K_aload_n (q := 19) 0 dX10_hasMiss_18 rfl rfl rfl ?_
      refine K_getR (q := 22) (ci := 5) (a2 := 102) 1 dX10_hasMiss_19 fRX10_17 rfl rfl (by decide) rfl rfl ?_
      refine K_iload_n (q := 23) 1 dX10_hasMiss_22 rfl rfl rfl ?_
      refine K_iload_n (q := 24) 2 dX10_hasMiss_23 rfl rfl rfl ?_
      refine K_csi (q := 27) [.inl (l3)] dX10_hasMiss_24 cb_X1_blockOf cvRX10_124 rfl (Nat.le_of_ble_eq_true rfl) ⟨by decide, by decide⟩ (Nat.le_of_ble_eq_true rfl) rfl (tX1_blockOf l3 M) rfl (fun v3 M2 => ?_)
      refine K_iadd (q := 28) dX10_hasMiss_27 rfl ?_
      refine K_iald (q := 29) dX10_hasMiss_28 rfl (fun v4 => ?_)
      refine K_if_eq (q := 32) (tgt := 34) dX10_hasMiss_29 rfl ?_ rfl ?_
      · refine K_iinc (q := 37) (v := l3 + (nI 1)) (ll' := [(3, .inl (l3 + (nI 1))), (0, .inr (15, 0, 100)), (2, .inl (l2))]) 2 dX10_hasMiss_34 rfl rfl (by decide) rfl rfl ?_
        refine J_goto (tgt := 10) dX10_hasMiss_37 rfl ?_
        exact J_sub [1, 2, 0] (ih l2 (l3 + (nI 1)) M2) rfl
      · refine K_iconst (q := 33) (v := nI 1) dX10_hasMiss_32 rfl rfl ?_
        exact J_zret dX10_hasMiss_33 (by decide)
def xX10_hasMiss  (l1 : Int32) (M : j_M) : Option (Int32 × j_M) := xX10_hasMiss_10 fu ((l1 * (nI 112)) + (nI 15)) (nI 0) M
set_option maxRecDepth 20000 in
set_option maxHeartbeats 2000000 in
theorem tX10_hasMiss  (l1 : Int32) (M : j_M) : J (ρ := Int32 × j_M) yX10_hasMiss cX10_hasMiss 4 (some .boolean) 1 20 j_ei 0 [(0, .inr (15, 0, 100)), (1, .inl (l1))] [] M (xX10_hasMiss  l1 M) := by
  unfold xX10_hasMiss
  refine K_iload_n (q := 1) 1 dX10_hasMiss_0 rfl rfl rfl ?_
  refine K_bipush (q := 3) (v := nI 112) dX10_hasMiss_1 rfl rfl ?_
  refine K_imul (q := 4) dX10_hasMiss_3 rfl ?_
  refine K_bipush (q := 6) (v := nI 15) dX10_hasMiss_4 rfl rfl ?_
  refine K_iadd (q := 7) dX10_hasMiss_6 rfl ?_
  refine K_istore_n (q := 8) (ll' := [(2, .inl ((l1 * (nI 112)) + (nI 15))), (0, .inr (15, 0, 100)), (1, .inl (l1))]) dX10_hasMiss_7 rfl (by decide) rfl rfl ?_
  refine K_iconst (q := 9) (v := nI 0) dX10_hasMiss_8 rfl rfl ?_
  refine K_istore_n (q := 10) (ll' := [(3, .inl ((nI 0))), (2, .inl ((l1 * (nI 112)) + (nI 15))), (0, .inr (15, 0, 100)), (1, .inl (l1))]) dX10_hasMiss_9 rfl (by decide) rfl rfl ?_
  exact J_sub [2, 1, 0] (tX10_hasMiss_10 fu ((l1 * (nI 112)) + (nI 15)) (nI 0) M) rfl
theorem dX10_sumUp_0 : decode cX10_sumUp 0 = .ok (.iconst 0, 1) := by decide +kernel
theorem dX10_sumUp_1 : decode cX10_sumUp 1 = .ok (.istore_n 1, 1) := by decide +kernel
theorem dX10_sumUp_2 : decode cX10_sumUp 2 = .ok (.iconst 0, 1) := by decide +kernel
theorem dX10_sumUp_3 : decode cX10_sumUp 3 = .ok (.istore_n 2, 1) := by decide +kernel
theorem dX10_sumUp_4 : decode cX10_sumUp 4 = .ok (.iconst (-1), 1) := by decide +kernel
theorem dX10_sumUp_5 : decode cX10_sumUp 5 = .ok (.istore_n 3, 1) := by decide +kernel
theorem dX10_sumUp_6 : decode cX10_sumUp 6 = .ok (.iconst 0, 1) := by decide +kernel
theorem dX10_sumUp_7 : decode cX10_sumUp 7 = .ok (.istore 4, 2) := by decide +kernel
theorem dX10_sumUp_9 : decode cX10_sumUp 9 = .ok (.iload 4, 2) := by decide +kernel
theorem dX10_sumUp_11 : decode cX10_sumUp 11 = .ok (.aload_n 0, 1) := by decide +kernel
theorem dX10_sumUp_12 : decode cX10_sumUp 12 = .ok (.getfield 55, 3) := by decide +kernel
theorem dX10_sumUp_15 : decode cX10_sumUp 15 = .ok (.if_icmp .ge 56, 3) := by decide +kernel
theorem dX10_sumUp_18 : decode cX10_sumUp 18 = .ok (.aload_n 0, 1) := by decide +kernel
theorem dX10_sumUp_19 : decode cX10_sumUp 19 = .ok (.getfield 23, 3) := by decide +kernel
theorem dX10_sumUp_22 : decode cX10_sumUp 22 = .ok (.iload 4, 2) := by decide +kernel
theorem dX10_sumUp_24 : decode cX10_sumUp 24 = .ok (.iaload, 1) := by decide +kernel
theorem dX10_sumUp_25 : decode cX10_sumUp 25 = .ok (.ifCond .ne 40, 3) := by decide +kernel
theorem dX10_sumUp_28 : decode cX10_sumUp 28 = .ok (.iinc 1 1, 3) := by decide +kernel
theorem dX10_sumUp_31 : decode cX10_sumUp 31 = .ok (.iload_n 3, 1) := by decide +kernel
theorem dX10_sumUp_32 : decode cX10_sumUp 32 = .ok (.iconst (-1), 1) := by decide +kernel
theorem dX10_sumUp_33 : decode cX10_sumUp 33 = .ok (.if_icmp .ne 13, 3) := by decide +kernel
theorem dX10_sumUp_36 : decode cX10_sumUp 36 = .ok (.aload_n 0, 1) := by decide +kernel
theorem dX10_sumUp_37 : decode cX10_sumUp 37 = .ok (.getfield 26, 3) := by decide +kernel
theorem dX10_sumUp_40 : decode cX10_sumUp 40 = .ok (.iload 4, 2) := by decide +kernel
theorem dX10_sumUp_42 : decode cX10_sumUp 42 = .ok (.iaload, 1) := by decide +kernel
theorem dX10_sumUp_43 : decode cX10_sumUp 43 = .ok (.goto 4, 3) := by decide +kernel
theorem dX10_sumUp_46 : decode cX10_sumUp 46 = .ok (.iload_n 3, 1) := by decide +kernel
theorem dX10_sumUp_47 : decode cX10_sumUp 47 = .ok (.istore_n 3, 1) := by decide +kernel
theorem dX10_sumUp_48 : decode cX10_sumUp 48 = .ok (.iload_n 2, 1) := by decide +kernel
theorem dX10_sumUp_49 : decode cX10_sumUp 49 = .ok (.aload_n 0, 1) := by decide +kernel
theorem dX10_sumUp_50 : decode cX10_sumUp 50 = .ok (.iload 4, 2) := by decide +kernel
theorem dX10_sumUp_52 : decode cX10_sumUp 52 = .ok (.invokevirtual 116, 3) := by decide +kernel
theorem dX10_sumUp_55 : decode cX10_sumUp 55 = .ok (.ifCond .eq 7, 3) := by decide +kernel
theorem dX10_sumUp_58 : decode cX10_sumUp 58 = .ok (.iconst 1, 1) := by decide +kernel
theorem dX10_sumUp_59 : decode cX10_sumUp 59 = .ok (.goto 4, 3) := by decide +kernel
theorem dX10_sumUp_62 : decode cX10_sumUp 62 = .ok (.iconst 0, 1) := by decide +kernel
theorem dX10_sumUp_63 : decode cX10_sumUp 63 = .ok (.iadd, 1) := by decide +kernel
theorem dX10_sumUp_64 : decode cX10_sumUp 64 = .ok (.istore_n 2, 1) := by decide +kernel
theorem dX10_sumUp_65 : decode cX10_sumUp 65 = .ok (.iinc 4 1, 3) := by decide +kernel
theorem dX10_sumUp_68 : decode cX10_sumUp 68 = .ok (.goto (-59), 3) := by decide +kernel
theorem dX10_sumUp_71 : decode cX10_sumUp 71 = .ok (.aload_n 0, 1) := by decide +kernel
theorem dX10_sumUp_72 : decode cX10_sumUp 72 = .ok (.getfield 11, 3) := by decide +kernel
theorem dX10_sumUp_75 : decode cX10_sumUp 75 = .ok (.iconst 0, 1) := by decide +kernel
theorem dX10_sumUp_76 : decode cX10_sumUp 76 = .ok (.aload_n 0, 1) := by decide +kernel
theorem dX10_sumUp_77 : decode cX10_sumUp 77 = .ok (.getfield 55, 3) := by decide +kernel
theorem dX10_sumUp_80 : decode cX10_sumUp 80 = .ok (.iastore, 1) := by decide +kernel
theorem dX10_sumUp_81 : decode cX10_sumUp 81 = .ok (.aload_n 0, 1) := by decide +kernel
theorem dX10_sumUp_82 : decode cX10_sumUp 82 = .ok (.getfield 11, 3) := by decide +kernel
theorem dX10_sumUp_85 : decode cX10_sumUp 85 = .ok (.iconst 1, 1) := by decide +kernel
theorem dX10_sumUp_86 : decode cX10_sumUp 86 = .ok (.iload_n 1, 1) := by decide +kernel
theorem dX10_sumUp_87 : decode cX10_sumUp 87 = .ok (.iastore, 1) := by decide +kernel
theorem dX10_sumUp_88 : decode cX10_sumUp 88 = .ok (.aload_n 0, 1) := by decide +kernel
theorem dX10_sumUp_89 : decode cX10_sumUp 89 = .ok (.getfield 11, 3) := by decide +kernel
theorem dX10_sumUp_92 : decode cX10_sumUp 92 = .ok (.iconst 2, 1) := by decide +kernel
theorem dX10_sumUp_93 : decode cX10_sumUp 93 = .ok (.iload_n 2, 1) := by decide +kernel
theorem dX10_sumUp_94 : decode cX10_sumUp 94 = .ok (.iastore, 1) := by decide +kernel
theorem dX10_sumUp_95 : decode cX10_sumUp 95 = .ok (.aload_n 0, 1) := by decide +kernel
theorem dX10_sumUp_96 : decode cX10_sumUp 96 = .ok (.getfield 11, 3) := by decide +kernel
theorem dX10_sumUp_99 : decode cX10_sumUp 99 = .ok (.iconst 3, 1) := by decide +kernel
theorem dX10_sumUp_100 : decode cX10_sumUp 100 = .ok (.iload_n 3, 1) := by decide +kernel
theorem dX10_sumUp_101 : decode cX10_sumUp 101 = .ok (.iastore, 1) := by decide +kernel
theorem dX10_sumUp_102 : decode cX10_sumUp 102 = .ok (.aload_n 0, 1) := by decide +kernel
theorem dX10_sumUp_103 : decode cX10_sumUp 103 = .ok (.getfield 11, 3) := by decide +kernel
theorem dX10_sumUp_106 : decode cX10_sumUp 106 = .ok (.iconst 4, 1) := by decide +kernel
theorem dX10_sumUp_107 : decode cX10_sumUp 107 = .ok (.aload_n 0, 1) := by decide +kernel
theorem dX10_sumUp_108 : decode cX10_sumUp 108 = .ok (.invokevirtual 120, 3) := by decide +kernel
theorem dX10_sumUp_111 : decode cX10_sumUp 111 = .ok (.ifCond .eq 7, 3) := by decide +kernel
theorem dX10_sumUp_114 : decode cX10_sumUp 114 = .ok (.iconst 1, 1) := by decide +kernel
theorem dX10_sumUp_115 : decode cX10_sumUp 115 = .ok (.goto 4, 3) := by decide +kernel
theorem dX10_sumUp_118 : decode cX10_sumUp 118 = .ok (.iconst 0, 1) := by decide +kernel
theorem dX10_sumUp_119 : decode cX10_sumUp 119 = .ok (.iastore, 1) := by decide +kernel
theorem dX10_sumUp_120 : decode cX10_sumUp 120 = .ok (.return_, 1) := by decide +kernel
def xX10_sumUp_119   (s1 : Int32) (s0 : Int32) (M : j_M) : Option (j_M) := gd s1 5 (oml (mw M 101 (ix s1) s0) fun M1 => some M1)
set_option maxRecDepth 20000 in
set_option maxHeartbeats 2000000 in
theorem tX10_sumUp_119    (s1 : Int32) (s0 : Int32) (M : j_M) : J (ρ := j_M) yX10_sumUp cX10_sumUp 5 none 2 47 j_ev 119 [] [.inl (s0), .inl (s1), .inr (1, 5, 101)] M (xX10_sumUp_119  s1 s0 M) := by
  unfold xX10_sumUp_119
  refine K_iast (q := 120) dX10_sumUp_119 rfl (fun M1 => ?_)
  exact J_vret dX10_sumUp_120
def xX10_sumUp_63 (k9 : Int32 → Int32 → Int32 → Int32 → j_M → Option (j_M))  (l1 : Int32) (l3 : Int32) (l4 : Int32) (s1 : Int32) (s0 : Int32) (M : j_M) : Option (j_M) := k9 l1 (s1 + s0) l3 (l4 + (nI 1)) M
set_option maxRecDepth 20000 in
set_option maxHeartbeats 2000000 in
theorem tX10_sumUp_63 (k9 : Int32 → Int32 → Int32 → Int32 → j_M → Option (j_M))  (hk9 : ∀ (l1 : Int32) (l2 : Int32) (l3 : Int32) (l4 : Int32) (M : j_M), J (ρ := j_M) yX10_sumUp cX10_sumUp 5 none 2 47 j_ev 9 [(0, .inr (15, 0, 100)), (1, .inl (l1)), (2, .inl (l2)), (3, .inl (l3)), (4, .inl (l4))] [] M (k9 l1 l2 l3 l4 M)) (l1 : Int32) (l3 : Int32) (l4 : Int32) (s1 : Int32) (s0 : Int32) (M : j_M) : J (ρ := j_M) yX10_sumUp cX10_sumUp 5 none 2 47 j_ev 63 [(0, .inr (15, 0, 100)), (1, .inl (l1)), (3, .inl (l3)), (4, .inl (l4))] [.inl (s0), .inl (s1)] M (xX10_sumUp_63 k9 l1 l3 l4 s1 s0 M) := by
  unfold xX10_sumUp_63
  refine K_iadd (q := 64) dX10_sumUp_63 rfl ?_
  refine K_istore_n (q := 65) (ll' := [(2, .inl (s1 + s0)), (0, .inr (15, 0, 100)), (1, .inl (l1)), (3, .inl (l3)), (4, .inl (l4))]) dX10_sumUp_64 rfl (by decide) rfl rfl ?_
  refine K_iinc (q := 68) (v := l4 + (nI 1)) (ll' := [(4, .inl (l4 + (nI 1))), (2, .inl (s1 + s0)), (0, .inr (15, 0, 100)), (1, .inl (l1)), (3, .inl (l3))]) 4 dX10_sumUp_65 rfl rfl (by decide) rfl rfl ?_
  refine J_goto (tgt := 9) dX10_sumUp_68 rfl ?_
  exact J_sub [2, 3, 1, 4, 0] (hk9 l1 (s1 + s0) l3 (l4 + (nI 1)) M) rfl
def xX10_sumUp_47 (k9 : Int32 → Int32 → Int32 → Int32 → j_M → Option (j_M))  (l1 : Int32) (l2 : Int32) (l4 : Int32) (s0 : Int32) (M : j_M) : Option (j_M) := obi (xX10_hasMiss l4 M) fun v2 M1 => (if v2 = (0 : Int32) then xX10_sumUp_63 k9 l1 s0 l4 l2 (nI 0) M1 else xX10_sumUp_63 k9 l1 s0 l4 l2 (nI 1) M1)
set_option maxRecDepth 20000 in
set_option maxHeartbeats 2000000 in
theorem tX10_sumUp_47 (k9 : Int32 → Int32 → Int32 → Int32 → j_M → Option (j_M))  (hk9 : ∀ (l1 : Int32) (l2 : Int32) (l3 : Int32) (l4 : Int32) (M : j_M), J (ρ := j_M) yX10_sumUp cX10_sumUp 5 none 2 47 j_ev 9 [(0, .inr (15, 0, 100)), (1, .inl (l1)), (2, .inl (l2)), (3, .inl (l3)), (4, .inl (l4))] [] M (k9 l1 l2 l3 l4 M)) (l1 : Int32) (l2 : Int32) (l4 : Int32) (s0 : Int32) (M : j_M) : J (ρ := j_M) yX10_sumUp cX10_sumUp 5 none 2 47 j_ev 47 [(0, .inr (15, 0, 100)), (1, .inl (l1)), (2, .inl (l2)), (4, .inl (l4))] [.inl (s0)] M (xX10_sumUp_47 k9 l1 l2 l4 s0 M) := by
  unfold xX10_sumUp_47
  refine K_istore_n (q := 48) (ll' := [(3, .inl (s0)), (0, .inr (15, 0, 100)), (1, .inl (l1)), (2, .inl (l2)), (4, .inl (l4))]) dX10_sumUp_47 rfl (by decide) rfl rfl ?_
  refine K_iload_n (q := 49) 3 dX10_sumUp_48 rfl rfl rfl ?_
  refine K_aload_n (q := 50) 1 dX10_sumUp_49 rfl rfl rfl ?_
  refine K_iload (q := 52) 4 dX10_sumUp_50 rfl rfl ?_
  refine K_cvi (q := 55) [.inl (l4)] dX10_sumUp_52 cb_X10_hasMiss cvRX10_116 rc_5 (show (15 : Nat) ≠ 0 by decide) rfl (Nat.le_of_ble_eq_true rfl) ⟨by decide, by decide⟩ (Nat.le_of_ble_eq_true rfl) rfl (tX10_hasMiss l4 M) rfl (fun v2 M1 => ?_)
  refine K_if_eq (q := 58) (tgt := 62) dX10_sumUp_55 rfl ?_ rfl ?_
  · refine K_iconst (q := 63) (v := nI 0) dX10_sumUp_62 rfl rfl ?_
    exact J_sub [1, 2, 0, 4] (tX10_sumUp_63 k9 hk9 l1 s0 l4 l2 (nI 0) M1) rfl
  · refine K_iconst (q := 59) (v := nI 1) dX10_sumUp_58 rfl rfl ?_
    refine J_goto (tgt := 63) dX10_sumUp_59 rfl ?_
    exact J_sub [1, 2, 0, 4] (tX10_sumUp_63 k9 hk9 l1 s0 l4 l2 (nI 1) M1) rfl
def xX10_sumUp_9   : Nat → Int32 → Int32 → Int32 → Int32 → j_M → Option (j_M)
  | 0, _, _, _, _, _ => none
  | n + 1, l1, l2, l3, l4, M => oli (M 100 10) fun v1 => (if v1 ≤ l4 then oli (M 100 10) fun v2 => gd (nI 0) 5 (oml (mw M 101 (ix (nI 0)) v2) fun M3 => gd (nI 1) 5 (oml (mw M3 101 (ix (nI 1)) l1) fun M4 => gd (nI 2) 5 (oml (mw M4 101 (ix (nI 2)) l2) fun M5 => gd (nI 3) 5 (oml (mw M5 101 (ix (nI 3)) l3) fun M6 => obi (xX10_canComeBack M6) fun v8 M7 => (if v8 = (0 : Int32) then xX10_sumUp_119  (nI 4) (nI 0) M7 else xX10_sumUp_119  (nI 4) (nI 1) M7))))) else gd l4 250 (oli (M 104 (ix l4)) fun v9 => (if v9 = (0 : Int32) then (if l3 = (-1 : Int32) then gd l4 250 (oli (M 105 (ix l4)) fun v10 => xX10_sumUp_47 (xX10_sumUp_9  n) (l1 + (nI 1)) l2 l4 v10 M) else xX10_sumUp_47 (xX10_sumUp_9  n) (l1 + (nI 1)) l2 l4 l3 M) else xX10_sumUp_9  n l1 l2 l3 (l4 + (nI 1)) M)))
set_option maxRecDepth 20000 in
set_option maxHeartbeats 2000000 in
theorem tX10_sumUp_9    : ∀ (n : Nat) (l1 : Int32) (l2 : Int32) (l3 : Int32) (l4 : Int32) (M : j_M), J (ρ := j_M) yX10_sumUp cX10_sumUp 5 none 2 47 j_ev 9 [(0, .inr (15, 0, 100)), (1, .inl (l1)), (2, .inl (l2)), (3, .inl (l3)), (4, .inl (l4))] [] M (xX10_sumUp_9  n l1 l2 l3 l4 M) := by
  intro n
  induction n with
  | zero => intros; exact J_none
  | succ n ih =>
    intro l1 l2 l3 l4 M
    rw [xX10_sumUp_9.eq_2]
    refine K_iload (q := 11) 4 dX10_sumUp_9 rfl rfl ?_
    refine K_aload_n (q := 12) 0 dX10_sumUp_11 rfl rfl rfl ?_
    refine K_getI (q := 15) (ci := 5) 10 dX10_sumUp_12 fRX10_55 rfl rfl rfl (fun v1 => ?_)
    refine K_icmp_ge (q := 18) (tgt := 71) dX10_sumUp_15 rfl ?_ rfl ?_
    · refine K_aload_n (q := 72) 0 dX10_sumUp_71 rfl rfl rfl ?_
      refine K_getR (q := 75) (ci := 5) (a2 := 101) 0 dX10_sumUp_72 fRX10_11 rfl rfl (by decide) rfl rfl ?_
      refine K_iconst (q := 76) (v := nI 0) dX10_sumUp_75 rfl rfl ?_
      refine K_aload_n (q := 77) 0 dX10_sumUp_76 rfl rfl rfl ?_
      refine K_getI (q := 80) (ci := 5) 10 dX10_sumUp_77 fRX10_55 rfl rfl rfl (fun v2 => ?_)
      refine K_iast (q := 81) dX10_sumUp_80 rfl (fun M3 => ?_)
      refine K_aload_n (q := 82) 0 dX10_sumUp_81 rfl rfl rfl ?_
      refine K_getR (q := 85) (ci := 5) (a2 := 101) 0 dX10_sumUp_82 fRX10_11 rfl rfl (by decide) rfl rfl ?_
      refine K_iconst (q := 86) (v := nI 1) dX10_sumUp_85 rfl rfl ?_
      refine K_iload_n (q := 87) 1 dX10_sumUp_86 rfl rfl rfl ?_
      refine K_iast (q := 88) dX10_sumUp_87 rfl (fun M4 => ?_)
      refine K_aload_n (q := 89) 0 dX10_sumUp_88 rfl rfl rfl ?_
      refine K_getR (q := 92) (ci := 5) (a2 := 101) 0 dX10_sumUp_89 fRX10_11 rfl rfl (by decide) rfl rfl ?_
      refine K_iconst (q := 93) (v := nI 2) dX10_sumUp_92 rfl rfl ?_
      refine K_iload_n (q := 94) 2 dX10_sumUp_93 rfl rfl rfl ?_
      refine K_iast (q := 95) dX10_sumUp_94 rfl (fun M5 => ?_)
      refine K_aload_n (q := 96) 0 dX10_sumUp_95 rfl rfl rfl ?_
      refine K_getR (q := 99) (ci := 5) (a2 := 101) 0 dX10_sumUp_96 fRX10_11 rfl rfl (by decide) rfl rfl ?_
      refine K_iconst (q := 100) (v := nI 3) dX10_sumUp_99 rfl rfl ?_
      refine K_iload_n (q := 101) 3 dX10_sumUp_100 rfl rfl rfl ?_
      refine K_iast (q := 102) dX10_sumUp_101 rfl (fun M6 => ?_)
      refine K_aload_n (q := 103) 0 dX10_sumUp_102 rfl rfl rfl ?_
      refine K_getR (q := 106) (ci := 5) (a2 := 101) 0 dX10_sumUp_103 fRX10_11 rfl rfl (by decide) rfl rfl ?_
      refine K_iconst (q := 107) (v := nI 4) dX10_sumUp_106 rfl rfl ?_
      refine K_aload_n (q := 108) 0 dX10_sumUp_107 rfl rfl rfl ?_
      refine K_cvi (q := 111) [] dX10_sumUp_108 cb_X10_canComeBack cvRX10_120 rc_5 (show (15 : Nat) ≠ 0 by decide) rfl (Nat.le_of_ble_eq_true rfl) ⟨by decide, by decide⟩ (Nat.le_of_ble_eq_true rfl) rfl (tX10_canComeBack M6) rfl (fun v8 M7 => ?_)
      refine K_if_eq (q := 114) (tgt := 118) dX10_sumUp_111 rfl ?_ rfl ?_
      · refine K_iconst (q := 119) (v := nI 0) dX10_sumUp_118 rfl rfl ?_
        exact J_sub [] (tX10_sumUp_119  (nI 4) (nI 0) M7) rfl
      · refine K_iconst (q := 115) (v := nI 1) dX10_sumUp_114 rfl rfl ?_
        refine J_goto (tgt := 119) dX10_sumUp_115 rfl ?_
        exact J_sub [] (tX10_sumUp_119  (nI 4) (nI 1) M7) rfl
    · refine K_aload_n (q := 19) 0 dX10_sumUp_18 rfl rfl rfl ?_
      refine K_getR (q := 22) (ci := 5) (a2 := 104) 3 dX10_sumUp_19 fRX10_23 rfl rfl (by decide) rfl rfl ?_
      refine K_iload (q := 24) 4 dX10_sumUp_22 rfl rfl ?_
      refine K_iald (q := 25) dX10_sumUp_24 rfl (fun v9 => ?_)
      refine K_if_ne (q := 28) (tgt := 65) dX10_sumUp_25 rfl ?_ rfl ?_
      · refine K_iinc (q := 68) (v := l4 + (nI 1)) (ll' := [(4, .inl (l4 + (nI 1))), (0, .inr (15, 0, 100)), (1, .inl (l1)), (2, .inl (l2)), (3, .inl (l3))]) 4 dX10_sumUp_65 rfl rfl (by decide) rfl rfl ?_
        refine J_goto (tgt := 9) dX10_sumUp_68 rfl ?_
        exact J_sub [1, 2, 3, 4, 0] (ih l1 l2 l3 (l4 + (nI 1)) M) rfl
      · refine K_iinc (q := 31) (v := l1 + (nI 1)) (ll' := [(1, .inl (l1 + (nI 1))), (0, .inr (15, 0, 100)), (2, .inl (l2)), (3, .inl (l3)), (4, .inl (l4))]) 1 dX10_sumUp_28 rfl rfl (by decide) rfl rfl ?_
        refine K_iload_n (q := 32) 3 dX10_sumUp_31 rfl rfl rfl ?_
        refine K_iconst (q := 33) (v := -1) dX10_sumUp_32 rfl rfl ?_
        refine K_icmp_ne (q := 36) (tgt := 46) dX10_sumUp_33 rfl ?_ rfl ?_
        · refine K_iload_n (q := 47) 3 dX10_sumUp_46 rfl rfl rfl ?_
          exact J_sub [1, 0, 2, 4] (tX10_sumUp_47 (xX10_sumUp_9  n) ih (l1 + (nI 1)) l2 l4 l3 M) rfl
        · refine K_aload_n (q := 37) 1 dX10_sumUp_36 rfl rfl rfl ?_
          refine K_getR (q := 40) (ci := 5) (a2 := 105) 4 dX10_sumUp_37 fRX10_26 rfl rfl (by decide) rfl rfl ?_
          refine K_iload (q := 42) 4 dX10_sumUp_40 rfl rfl ?_
          refine K_iald (q := 43) dX10_sumUp_42 rfl (fun v10 => ?_)
          refine J_goto (tgt := 47) dX10_sumUp_43 rfl ?_
          exact J_sub [1, 0, 2, 4] (tX10_sumUp_47 (xX10_sumUp_9  n) ih (l1 + (nI 1)) l2 l4 v10 M) rfl
def xX10_sumUp   (M : j_M) : Option (j_M) := xX10_sumUp_9 fu (nI 0) (nI 0) (-1 : Int32) (nI 0) M
set_option maxRecDepth 20000 in
set_option maxHeartbeats 2000000 in
theorem tX10_sumUp   (M : j_M) : J (ρ := j_M) yX10_sumUp cX10_sumUp 5 none 2 47 j_ev 0 [(0, .inr (15, 0, 100))] [] M (xX10_sumUp   M) := by
  unfold xX10_sumUp
  refine K_iconst (q := 1) (v := nI 0) dX10_sumUp_0 rfl rfl ?_
  refine K_istore_n (q := 2) (ll' := [(1, .inl ((nI 0))), (0, .inr (15, 0, 100))]) dX10_sumUp_1 rfl (by decide) rfl rfl ?_
  refine K_iconst (q := 3) (v := nI 0) dX10_sumUp_2 rfl rfl ?_
  refine K_istore_n (q := 4) (ll' := [(2, .inl ((nI 0))), (1, .inl ((nI 0))), (0, .inr (15, 0, 100))]) dX10_sumUp_3 rfl (by decide) rfl rfl ?_
  refine K_iconst (q := 5) (v := -1) dX10_sumUp_4 rfl rfl ?_
  refine K_istore_n (q := 6) (ll' := [(3, .inl ((-1 : Int32))), (2, .inl ((nI 0))), (1, .inl ((nI 0))), (0, .inr (15, 0, 100))]) dX10_sumUp_5 rfl (by decide) rfl rfl ?_
  refine K_iconst (q := 7) (v := nI 0) dX10_sumUp_6 rfl rfl ?_
  refine K_istore (q := 9) (ll' := [(4, .inl ((nI 0))), (3, .inl ((-1 : Int32))), (2, .inl ((nI 0))), (1, .inl ((nI 0))), (0, .inr (15, 0, 100))]) dX10_sumUp_7 (by decide) rfl rfl ?_
  exact J_sub [4, 3, 2, 1, 0] (tX10_sumUp_9 fu (nI 0) (nI 0) (-1 : Int32) (nI 0) M) rfl
theorem dX10_explore_0 : decode cX10_explore 0 = .ok (.aload_n 0, 1) := by decide +kernel
theorem dX10_explore_1 : decode cX10_explore 1 = .ok (.iconst 0, 1) := by decide +kernel
theorem dX10_explore_2 : decode cX10_explore 2 = .ok (.putfield 55, 3) := by decide +kernel
theorem dX10_explore_5 : decode cX10_explore 5 = .ok (.aload_n 0, 1) := by decide +kernel
theorem dX10_explore_6 : decode cX10_explore 6 = .ok (.iconst 0, 1) := by decide +kernel
theorem dX10_explore_7 : decode cX10_explore 7 = .ok (.putfield 74, 3) := by decide +kernel
theorem dX10_explore_10 : decode cX10_explore 10 = .ok (.aload_n 0, 1) := by decide +kernel
theorem dX10_explore_11 : decode cX10_explore 11 = .ok (.iconst 0, 1) := by decide +kernel
theorem dX10_explore_12 : decode cX10_explore 12 = .ok (.putfield 77, 3) := by decide +kernel
theorem dX10_explore_15 : decode cX10_explore 15 = .ok (.aload_n 0, 1) := by decide +kernel
theorem dX10_explore_16 : decode cX10_explore 16 = .ok (.aload_n 1, 1) := by decide +kernel
theorem dX10_explore_17 : decode cX10_explore 17 = .ok (.getfield 58, 3) := by decide +kernel
theorem dX10_explore_20 : decode cX10_explore 20 = .ok (.putfield 61, 3) := by decide +kernel
theorem dX10_explore_23 : decode cX10_explore 23 = .ok (.aload_n 0, 1) := by decide +kernel
theorem dX10_explore_24 : decode cX10_explore 24 = .ok (.aload_n 1, 1) := by decide +kernel
theorem dX10_explore_25 : decode cX10_explore 25 = .ok (.getfield 62, 3) := by decide +kernel
theorem dX10_explore_28 : decode cX10_explore 28 = .ok (.putfield 65, 3) := by decide +kernel
theorem dX10_explore_31 : decode cX10_explore 31 = .ok (.aload_n 0, 1) := by decide +kernel
theorem dX10_explore_32 : decode cX10_explore 32 = .ok (.aload_n 1, 1) := by decide +kernel
theorem dX10_explore_33 : decode cX10_explore 33 = .ok (.getfield 66, 3) := by decide +kernel
theorem dX10_explore_36 : decode cX10_explore 36 = .ok (.putfield 69, 3) := by decide +kernel
theorem dX10_explore_39 : decode cX10_explore 39 = .ok (.aload_n 0, 1) := by decide +kernel
theorem dX10_explore_40 : decode cX10_explore 40 = .ok (.aload_n 0, 1) := by decide +kernel
theorem dX10_explore_41 : decode cX10_explore 41 = .ok (.getfield 61, 3) := by decide +kernel
theorem dX10_explore_44 : decode cX10_explore 44 = .ok (.iconst 1, 1) := by decide +kernel
theorem dX10_explore_45 : decode cX10_explore 45 = .ok (.iadd, 1) := by decide +kernel
theorem dX10_explore_46 : decode cX10_explore 46 = .ok (.bipush 16, 2) := by decide +kernel
theorem dX10_explore_48 : decode cX10_explore 48 = .ok (.imul, 1) := by decide +kernel
theorem dX10_explore_49 : decode cX10_explore 49 = .ok (.putfield 81, 3) := by decide +kernel
theorem dX10_explore_52 : decode cX10_explore 52 = .ok (.aload_n 0, 1) := by decide +kernel
theorem dX10_explore_53 : decode cX10_explore 53 = .ok (.getfield 29, 3) := by decide +kernel
theorem dX10_explore_56 : decode cX10_explore 56 = .ok (.iconst 0, 1) := by decide +kernel
theorem dX10_explore_57 : decode cX10_explore 57 = .ok (.invokestatic 84, 3) := by decide +kernel
theorem dX10_explore_60 : decode cX10_explore 60 = .ok (.aload_n 0, 1) := by decide +kernel
theorem dX10_explore_61 : decode cX10_explore 61 = .ok (.aload_n 1, 1) := by decide +kernel
theorem dX10_explore_62 : decode cX10_explore 62 = .ok (.iconst 0, 1) := by decide +kernel
theorem dX10_explore_63 : decode cX10_explore 63 = .ok (.invokevirtual 89, 3) := by decide +kernel
theorem dX10_explore_66 : decode cX10_explore 66 = .ok (.pop, 1) := by decide +kernel
theorem dX10_explore_67 : decode cX10_explore 67 = .ok (.iconst 0, 1) := by decide +kernel
theorem dX10_explore_68 : decode cX10_explore 68 = .ok (.istore_n 2, 1) := by decide +kernel
theorem dX10_explore_69 : decode cX10_explore 69 = .ok (.iload_n 2, 1) := by decide +kernel
theorem dX10_explore_70 : decode cX10_explore 70 = .ok (.aload_n 0, 1) := by decide +kernel
theorem dX10_explore_71 : decode cX10_explore 71 = .ok (.getfield 55, 3) := by decide +kernel
theorem dX10_explore_74 : decode cX10_explore 74 = .ok (.if_icmp .ge 29, 3) := by decide +kernel
theorem dX10_explore_77 : decode cX10_explore 77 = .ok (.iload_n 2, 1) := by decide +kernel
theorem dX10_explore_78 : decode cX10_explore 78 = .ok (.sipush 250, 3) := by decide +kernel
theorem dX10_explore_81 : decode cX10_explore 81 = .ok (.if_icmp .ge 22, 3) := by decide +kernel
theorem dX10_explore_84 : decode cX10_explore 84 = .ok (.aload_n 0, 1) := by decide +kernel
theorem dX10_explore_85 : decode cX10_explore 85 = .ok (.getfield 77, 3) := by decide +kernel
theorem dX10_explore_88 : decode cX10_explore 88 = .ok (.ifCond .ne 15, 3) := by decide +kernel
theorem dX10_explore_91 : decode cX10_explore 91 = .ok (.aload_n 0, 1) := by decide +kernel
theorem dX10_explore_92 : decode cX10_explore 92 = .ok (.aload_n 1, 1) := by decide +kernel
theorem dX10_explore_93 : decode cX10_explore 93 = .ok (.iload_n 2, 1) := by decide +kernel
theorem dX10_explore_94 : decode cX10_explore 94 = .ok (.invokevirtual 93, 3) := by decide +kernel
theorem dX10_explore_97 : decode cX10_explore 97 = .ok (.iinc 2 1, 3) := by decide +kernel
theorem dX10_explore_100 : decode cX10_explore 100 = .ok (.goto (-31), 3) := by decide +kernel
theorem dX10_explore_103 : decode cX10_explore 103 = .ok (.aload_n 0, 1) := by decide +kernel
theorem dX10_explore_104 : decode cX10_explore 104 = .ok (.getfield 77, 3) := by decide +kernel
theorem dX10_explore_107 : decode cX10_explore 107 = .ok (.ifCond .eq 14, 3) := by decide +kernel
theorem dX10_explore_110 : decode cX10_explore 110 = .ok (.aload_n 0, 1) := by decide +kernel
theorem dX10_explore_111 : decode cX10_explore 111 = .ok (.getfield 11, 3) := by decide +kernel
theorem dX10_explore_114 : decode cX10_explore 114 = .ok (.iconst (-1), 1) := by decide +kernel
theorem dX10_explore_115 : decode cX10_explore 115 = .ok (.invokestatic 84, 3) := by decide +kernel
theorem dX10_explore_118 : decode cX10_explore 118 = .ok (.goto 7, 3) := by decide +kernel
theorem dX10_explore_121 : decode cX10_explore 121 = .ok (.aload_n 0, 1) := by decide +kernel
theorem dX10_explore_122 : decode cX10_explore 122 = .ok (.invokevirtual 97, 3) := by decide +kernel
theorem dX10_explore_125 : decode cX10_explore 125 = .ok (.return_, 1) := by decide +kernel
def xX10_explore_103  (u1 : Nat)  (M : j_M) : Option (j_M) := oli (M 100 16) fun v1 => (if v1 = (0 : Int32) then obv (xX10_sumUp M) fun M2 => some M2 else obv (xJ7_fill_53178 5 101 (-1 : Int32) M) fun M3 => some M3)
set_option maxRecDepth 20000 in
set_option maxHeartbeats 2000000 in
theorem tX10_explore_103  (u1 : Nat)   (M : j_M) : J (ρ := j_M) yX10_explore cX10_explore 3 none 6 163 j_ev 103 [(0, .inr (15, 0, 100))] [] M (xX10_explore_103 u1  M) := by
  unfold xX10_explore_103
  refine K_aload_n (q := 104) 0 dX10_explore_103 rfl rfl rfl ?_
  refine K_getI (q := 107) (ci := 5) 16 dX10_explore_104 fRX10_77 rfl rfl rfl (fun v1 => ?_)
  refine K_if_eq (q := 110) (tgt := 121) dX10_explore_107 rfl ?_ rfl ?_
  · refine K_aload_n (q := 122) 0 dX10_explore_121 rfl rfl rfl ?_
    refine K_cvv (q := 125) [] dX10_explore_122 cb_X10_sumUp cvRX10_97 rc_5 (show (15 : Nat) ≠ 0 by decide) rfl (Nat.le_of_ble_eq_true rfl) ⟨by decide, by decide⟩ (Nat.le_of_ble_eq_true rfl) rfl (tX10_sumUp M) rfl (fun M2 => ?_)
    exact J_vret dX10_explore_125
  · refine K_aload_n (q := 111) 0 dX10_explore_110 rfl rfl rfl ?_
    refine K_getR (q := 114) (ci := 5) (a2 := 101) 0 dX10_explore_111 fRX10_11 rfl rfl (by decide) rfl rfl ?_
    refine K_iconst (q := 115) (v := -1) dX10_explore_114 rfl rfl ?_
    refine K_csv (q := 118) [.inr (1, 5, 101), .inl ((-1 : Int32))] dX10_explore_115 cb_J7_fill_53178 cvRX10_84 rfl (Nat.le_of_ble_eq_true rfl) ⟨by decide, by decide⟩ (Nat.le_of_ble_eq_true rfl) rfl (tJ7_fill_53178 5 101 (-1 : Int32) M) rfl (fun M3 => ?_)
    refine J_goto (tgt := 125) dX10_explore_118 rfl ?_
    exact J_vret dX10_explore_125
def xX10_explore_69  (u1 : Nat) : Nat → Int32 → j_M → Option (j_M)
  | 0, _, _ => none
  | n + 1, l2, M => oli (M 100 10) fun v1 => (if v1 ≤ l2 then xX10_explore_103 u1 M else (if (nI 250) ≤ l2 then xX10_explore_103 u1 M else oli (M 100 16) fun v2 => (if v2 = (0 : Int32) then obv (xX10_expand u1 l2 M) fun M3 => xX10_explore_69 u1 n (l2 + (nI 1)) M3 else xX10_explore_103 u1 M)))
set_option maxRecDepth 20000 in
set_option maxHeartbeats 2000000 in
theorem tX10_explore_69  (u1 : Nat)  : ∀ (n : Nat) (l2 : Int32) (M : j_M), J (ρ := j_M) yX10_explore cX10_explore 3 none 6 163 j_ev 69 [(0, .inr (15, 0, 100)), (1, .inr (10, 0, u1)), (2, .inl (l2))] [] M (xX10_explore_69 u1 n l2 M) := by
  intro n
  induction n with
  | zero => intros; exact J_none
  | succ n ih =>
    intro l2 M
    rw [xX10_explore_69.eq_2]
    refine K_iload_n (q := 70) 2 dX10_explore_69 rfl rfl rfl ?_
    refine K_aload_n (q := 71) 0 dX10_explore_70 rfl rfl rfl ?_
    refine K_getI (q := 74) (ci := 5) 10 dX10_explore_71 fRX10_55 rfl rfl rfl (fun v1 => ?_)
    refine K_icmp_ge (q := 77) (tgt := 103) dX10_explore_74 rfl ?_ rfl ?_
    · exact J_sub [0] (tX10_explore_103 u1 M) rfl
    · refine K_iload_n (q := 78) 2 dX10_explore_77 rfl rfl rfl ?_
      refine K_sipush (q := 81) (v := nI 250) dX10_explore_78 rfl rfl ?_
      refine K_icmp_ge (q := 84) (tgt := 103) dX10_explore_81 rfl ?_ rfl ?_
      · exact J_sub [0] (tX10_explore_103 u1 M) rfl
      · refine K_aload_n (q := 85) 0 dX10_explore_84 rfl rfl rfl ?_
        refine K_getI (q := 88) (ci := 5) 16 dX10_explore_85 fRX10_77 rfl rfl rfl (fun v2 => ?_)
        refine K_if_ne (q := 91) (tgt := 103) dX10_explore_88 rfl ?_ rfl ?_
        · exact J_sub [0] (tX10_explore_103 u1 M) rfl
        · refine K_aload_n (q := 92) 0 dX10_explore_91 rfl rfl rfl ?_
          refine K_aload_n (q := 93) 1 dX10_explore_92 rfl rfl rfl ?_
          refine K_iload_n (q := 94) 2 dX10_explore_93 rfl rfl rfl ?_
          refine K_cvv (q := 97) [.inr (10, 0, u1), .inl (l2)] dX10_explore_94 cb_X10_expand cvRX10_93 rc_5 (show (15 : Nat) ≠ 0 by decide) rfl (Nat.le_of_ble_eq_true rfl) ⟨by decide, by decide⟩ (Nat.le_of_ble_eq_true rfl) rfl (tX10_expand u1 l2 M) rfl (fun M3 => ?_)
          refine K_iinc (q := 100) (v := l2 + (nI 1)) (ll' := [(2, .inl (l2 + (nI 1))), (0, .inr (15, 0, 100)), (1, .inr (10, 0, u1))]) 2 dX10_explore_97 rfl rfl (by decide) rfl rfl ?_
          refine J_goto (tgt := 69) dX10_explore_100 rfl ?_
          exact J_sub [1, 2, 0] (ih (l2 + (nI 1)) M3) rfl
def xX10_explore (u1 : Nat)  (M : j_M) : Option (j_M) := oml (mw M 100 10 (nI 0)) fun M1 => oml (mw M1 100 11 (nI 0)) fun M2 => gz (nI 0) (oml (mw M2 100 16 (nI 0)) fun M3 => oli (M3 u1 9) fun v4 => oml (mw M3 100 12 v4) fun M5 => oli (M5 u1 10) fun v6 => oml (mw M5 100 13 v6) fun M7 => oli (M7 u1 11) fun v8 => oml (mw M7 100 14 v8) fun M9 => oli (M9 100 12) fun v10 => oml (mw M9 100 15 ((v10 + (nI 1)) * (nI 16))) fun M11 => obv (xJ7_fill_53178 1024 106 (nI 0) M11) fun M12 => obi (xX10_enter u1 (nI 0) M12) fun v14 M13 => xX10_explore_69 u1 fu (nI 0) M13)
set_option maxRecDepth 20000 in
set_option maxHeartbeats 2000000 in
theorem tX10_explore (u1 : Nat)  (M : j_M) : J (ρ := j_M) yX10_explore cX10_explore 3 none 6 163 j_ev 0 [(0, .inr (15, 0, 100)), (1, .inr (10, 0, u1))] [] M (xX10_explore u1  M) := by
  unfold xX10_explore
  refine K_aload_n (q := 1) 0 dX10_explore_0 rfl rfl rfl ?_
  refine K_iconst (q := 2) (v := nI 0) dX10_explore_1 rfl rfl ?_
  refine K_putI (q := 5) (ci := 5) 10 dX10_explore_2 fRX10_55 fp_5_10 rfl rfl (by decide) rfl (fun M1 => ?_)
  refine K_aload_n (q := 6) 0 dX10_explore_5 rfl rfl rfl ?_
  refine K_iconst (q := 7) (v := nI 0) dX10_explore_6 rfl rfl ?_
  refine K_putI (q := 10) (ci := 5) 11 dX10_explore_7 fRX10_74 fp_5_11 rfl rfl (by decide) rfl (fun M2 => ?_)
  refine K_aload_n (q := 11) 0 dX10_explore_10 rfl rfl rfl ?_
  refine K_iconst (q := 12) (v := nI 0) dX10_explore_11 rfl rfl ?_
  refine K_putZ (q := 15) (ci := 5) 16 dX10_explore_12 fRX10_77 fp_5_16 rfl rfl (by decide) rfl (fun M3 => ?_)
  refine K_aload_n (q := 16) 0 dX10_explore_15 rfl rfl rfl ?_
  refine K_aload_n (q := 17) 1 dX10_explore_16 rfl rfl rfl ?_
  refine K_getI (q := 20) (ci := 0) 9 dX10_explore_17 fRX10_58 rfl rfl rfl (fun v4 => ?_)
  refine K_putI (q := 23) (ci := 5) 12 dX10_explore_20 fRX10_61 fp_5_12 rfl rfl (by decide) rfl (fun M5 => ?_)
  refine K_aload_n (q := 24) 0 dX10_explore_23 rfl rfl rfl ?_
  refine K_aload_n (q := 25) 1 dX10_explore_24 rfl rfl rfl ?_
  refine K_getI (q := 28) (ci := 0) 10 dX10_explore_25 fRX10_62 rfl rfl rfl (fun v6 => ?_)
  refine K_putI (q := 31) (ci := 5) 13 dX10_explore_28 fRX10_65 fp_5_13 rfl rfl (by decide) rfl (fun M7 => ?_)
  refine K_aload_n (q := 32) 0 dX10_explore_31 rfl rfl rfl ?_
  refine K_aload_n (q := 33) 1 dX10_explore_32 rfl rfl rfl ?_
  refine K_getI (q := 36) (ci := 0) 11 dX10_explore_33 fRX10_66 rfl rfl rfl (fun v8 => ?_)
  refine K_putI (q := 39) (ci := 5) 14 dX10_explore_36 fRX10_69 fp_5_14 rfl rfl (by decide) rfl (fun M9 => ?_)
  refine K_aload_n (q := 40) 0 dX10_explore_39 rfl rfl rfl ?_
  refine K_aload_n (q := 41) 0 dX10_explore_40 rfl rfl rfl ?_
  refine K_getI (q := 44) (ci := 5) 12 dX10_explore_41 fRX10_61 rfl rfl rfl (fun v10 => ?_)
  refine K_iconst (q := 45) (v := nI 1) dX10_explore_44 rfl rfl ?_
  refine K_iadd (q := 46) dX10_explore_45 rfl ?_
  refine K_bipush (q := 48) (v := nI 16) dX10_explore_46 rfl rfl ?_
  refine K_imul (q := 49) dX10_explore_48 rfl ?_
  refine K_putI (q := 52) (ci := 5) 15 dX10_explore_49 fRX10_81 fp_5_15 rfl rfl (by decide) rfl (fun M11 => ?_)
  refine K_aload_n (q := 53) 0 dX10_explore_52 rfl rfl rfl ?_
  refine K_getR (q := 56) (ci := 5) (a2 := 106) 5 dX10_explore_53 fRX10_29 rfl rfl (by decide) rfl rfl ?_
  refine K_iconst (q := 57) (v := nI 0) dX10_explore_56 rfl rfl ?_
  refine K_csv (q := 60) [.inr (1, 1024, 106), .inl ((nI 0))] dX10_explore_57 cb_J7_fill_53178 cvRX10_84 rfl (Nat.le_of_ble_eq_true rfl) ⟨by decide, by decide⟩ (Nat.le_of_ble_eq_true rfl) rfl (tJ7_fill_53178 1024 106 (nI 0) M11) rfl (fun M12 => ?_)
  refine K_aload_n (q := 61) 0 dX10_explore_60 rfl rfl rfl ?_
  refine K_aload_n (q := 62) 1 dX10_explore_61 rfl rfl rfl ?_
  refine K_iconst (q := 63) (v := nI 0) dX10_explore_62 rfl rfl ?_
  refine K_cvi (q := 66) [.inr (10, 0, u1), .inl ((nI 0))] dX10_explore_63 cb_X10_enter cvRX10_89 rc_5 (show (15 : Nat) ≠ 0 by decide) rfl (Nat.le_of_ble_eq_true rfl) ⟨by decide, by decide⟩ (Nat.le_of_ble_eq_true rfl) rfl (tX10_enter u1 (nI 0) M12) rfl (fun v14 M13 => ?_)
  refine K_pop (q := 67) dX10_explore_66 rfl ?_
  refine K_iconst (q := 68) (v := nI 0) dX10_explore_67 rfl rfl ?_
  refine K_istore_n (q := 69) (ll' := [(2, .inl ((nI 0))), (0, .inr (15, 0, 100)), (1, .inr (10, 0, u1))]) dX10_explore_68 rfl (by decide) rfl rfl ?_
  exact J_sub [1, 2, 0] (tX10_explore_69 u1 fu (nI 0) M13) rfl
theorem dX10_knows_0 : decode cX10_knows 0 = .ok (.aload_n 1, 1) := by decide +kernel
theorem dX10_knows_1 : decode cX10_knows 1 = .ok (.getfield 44, 3) := by decide +kernel
theorem dX10_knows_4 : decode cX10_knows 4 = .ok (.aload_n 1, 1) := by decide +kernel
theorem dX10_knows_5 : decode cX10_knows 5 = .ok (.getfield 47, 3) := by decide +kernel
theorem dX10_knows_8 : decode cX10_knows 8 = .ok (.invokestatic 51, 3) := by decide +kernel
theorem dX10_knows_11 : decode cX10_knows 11 = .ok (.aload_n 0, 1) := by decide +kernel
theorem dX10_knows_12 : decode cX10_knows 12 = .ok (.getfield 55, 3) := by decide +kernel
theorem dX10_knows_15 : decode cX10_knows 15 = .ok (.ifCond .le 49, 3) := by decide +kernel
theorem dX10_knows_18 : decode cX10_knows 18 = .ok (.aload_n 1, 1) := by decide +kernel
theorem dX10_knows_19 : decode cX10_knows 19 = .ok (.getfield 58, 3) := by decide +kernel
theorem dX10_knows_22 : decode cX10_knows 22 = .ok (.aload_n 0, 1) := by decide +kernel
theorem dX10_knows_23 : decode cX10_knows 23 = .ok (.getfield 61, 3) := by decide +kernel
theorem dX10_knows_26 : decode cX10_knows 26 = .ok (.if_icmp .ne 38, 3) := by decide +kernel
theorem dX10_knows_29 : decode cX10_knows 29 = .ok (.aload_n 1, 1) := by decide +kernel
theorem dX10_knows_30 : decode cX10_knows 30 = .ok (.getfield 62, 3) := by decide +kernel
theorem dX10_knows_33 : decode cX10_knows 33 = .ok (.aload_n 0, 1) := by decide +kernel
theorem dX10_knows_34 : decode cX10_knows 34 = .ok (.getfield 65, 3) := by decide +kernel
theorem dX10_knows_37 : decode cX10_knows 37 = .ok (.if_icmp .ne 27, 3) := by decide +kernel
theorem dX10_knows_40 : decode cX10_knows 40 = .ok (.aload_n 1, 1) := by decide +kernel
theorem dX10_knows_41 : decode cX10_knows 41 = .ok (.getfield 66, 3) := by decide +kernel
theorem dX10_knows_44 : decode cX10_knows 44 = .ok (.aload_n 0, 1) := by decide +kernel
theorem dX10_knows_45 : decode cX10_knows 45 = .ok (.getfield 69, 3) := by decide +kernel
theorem dX10_knows_48 : decode cX10_knows 48 = .ok (.if_icmp .ne 16, 3) := by decide +kernel
theorem dX10_knows_51 : decode cX10_knows 51 = .ok (.aload_n 0, 1) := by decide +kernel
theorem dX10_knows_52 : decode cX10_knows 52 = .ok (.iconst 0, 1) := by decide +kernel
theorem dX10_knows_53 : decode cX10_knows 53 = .ok (.aload_n 1, 1) := by decide +kernel
theorem dX10_knows_54 : decode cX10_knows 54 = .ok (.invokevirtual 70, 3) := by decide +kernel
theorem dX10_knows_57 : decode cX10_knows 57 = .ok (.ifCond .eq 7, 3) := by decide +kernel
theorem dX10_knows_60 : decode cX10_knows 60 = .ok (.iconst 1, 1) := by decide +kernel
theorem dX10_knows_61 : decode cX10_knows 61 = .ok (.goto 4, 3) := by decide +kernel
theorem dX10_knows_64 : decode cX10_knows 64 = .ok (.iconst 0, 1) := by decide +kernel
theorem dX10_knows_65 : decode cX10_knows 65 = .ok (.ireturn, 1) := by decide +kernel
def xX10_knows (u1 : Nat)  (M : j_M) : Option (Int32 × j_M) := oli (M u1 8) fun v1 => obv (xX10_sort 256 (u1 + 2) v1 M) fun M2 => oli (M2 100 10) fun v3 => (if v3 ≤ (0 : Int32) then some ((nI 0), M2) else oli (M2 u1 9) fun v4 => oli (M2 100 12) fun v5 => (if v4 = v5 then oli (M2 u1 10) fun v6 => oli (M2 100 13) fun v7 => (if v6 = v7 then oli (M2 u1 11) fun v8 => oli (M2 100 14) fun v9 => (if v8 = v9 then obi (xX10_isState u1 (nI 0) M2) fun v11 M10 => (if v11 = (0 : Int32) then some ((nI 0), M10) else some ((nI 1), M10)) else some ((nI 0), M2)) else some ((nI 0), M2)) else some ((nI 0), M2)))
set_option maxRecDepth 20000 in
set_option maxHeartbeats 2000000 in
theorem tX10_knows (u1 : Nat)  (M : j_M) : J (ρ := Int32 × j_M) yX10_knows cX10_knows 2 (some .boolean) 1 24 j_ei 0 [(0, .inr (15, 0, 100)), (1, .inr (10, 0, u1))] [] M (xX10_knows u1  M) := by
  unfold xX10_knows
  refine K_aload_n (q := 1) 1 dX10_knows_0 rfl rfl rfl ?_
  refine K_getR (q := 4) (ci := 0) (a2 := u1 + 2) 2 dX10_knows_1 fRX10_44 rfl rfl (by decide) rfl rfl ?_
  refine K_aload_n (q := 5) 1 dX10_knows_4 rfl rfl rfl ?_
  refine K_getI (q := 8) (ci := 0) 8 dX10_knows_5 fRX10_47 rfl rfl rfl (fun v1 => ?_)
  refine K_csv (q := 11) [.inr (1, 256, u1 + 2), .inl (v1)] dX10_knows_8 cb_X10_sort cvRX10_51 rfl (Nat.le_of_ble_eq_true rfl) ⟨by decide, by decide⟩ (Nat.le_of_ble_eq_true rfl) rfl (tX10_sort 256 (u1 + 2) v1 M) rfl (fun M2 => ?_)
  refine K_aload_n (q := 12) 0 dX10_knows_11 rfl rfl rfl ?_
  refine K_getI (q := 15) (ci := 5) 10 dX10_knows_12 fRX10_55 rfl rfl rfl (fun v3 => ?_)
  refine K_if_le (q := 18) (tgt := 64) dX10_knows_15 rfl ?_ rfl ?_
  · refine K_iconst (q := 65) (v := nI 0) dX10_knows_64 rfl rfl ?_
    exact J_zret dX10_knows_65 (by decide)
  · refine K_aload_n (q := 19) 1 dX10_knows_18 rfl rfl rfl ?_
    refine K_getI (q := 22) (ci := 0) 9 dX10_knows_19 fRX10_58 rfl rfl rfl (fun v4 => ?_)
    refine K_aload_n (q := 23) 0 dX10_knows_22 rfl rfl rfl ?_
    refine K_getI (q := 26) (ci := 5) 12 dX10_knows_23 fRX10_61 rfl rfl rfl (fun v5 => ?_)
    refine K_icmp_ne (q := 29) (tgt := 64) dX10_knows_26 rfl ?_ rfl ?_
    · refine K_iconst (q := 65) (v := nI 0) dX10_knows_64 rfl rfl ?_
      exact J_zret dX10_knows_65 (by decide)
    · refine K_aload_n (q := 30) 1 dX10_knows_29 rfl rfl rfl ?_
      refine K_getI (q := 33) (ci := 0) 10 dX10_knows_30 fRX10_62 rfl rfl rfl (fun v6 => ?_)
      refine K_aload_n (q := 34) 0 dX10_knows_33 rfl rfl rfl ?_
      refine K_getI (q := 37) (ci := 5) 13 dX10_knows_34 fRX10_65 rfl rfl rfl (fun v7 => ?_)
      refine K_icmp_ne (q := 40) (tgt := 64) dX10_knows_37 rfl ?_ rfl ?_
      · refine K_iconst (q := 65) (v := nI 0) dX10_knows_64 rfl rfl ?_
        exact J_zret dX10_knows_65 (by decide)
      · refine K_aload_n (q := 41) 1 dX10_knows_40 rfl rfl rfl ?_
        refine K_getI (q := 44) (ci := 0) 11 dX10_knows_41 fRX10_66 rfl rfl rfl (fun v8 => ?_)
        refine K_aload_n (q := 45) 0 dX10_knows_44 rfl rfl rfl ?_
        refine K_getI (q := 48) (ci := 5) 14 dX10_knows_45 fRX10_69 rfl rfl rfl (fun v9 => ?_)
        refine K_icmp_ne (q := 51) (tgt := 64) dX10_knows_48 rfl ?_ rfl ?_
        · refine K_iconst (q := 65) (v := nI 0) dX10_knows_64 rfl rfl ?_
          exact J_zret dX10_knows_65 (by decide)
        · refine K_aload_n (q := 52) 0 dX10_knows_51 rfl rfl rfl ?_
          refine K_iconst (q := 53) (v := nI 0) dX10_knows_52 rfl rfl ?_
          refine K_aload_n (q := 54) 1 dX10_knows_53 rfl rfl rfl ?_
          refine K_cvi (q := 57) [.inl ((nI 0)), .inr (10, 0, u1)] dX10_knows_54 cb_X10_isState cvRX10_70 rc_5 (show (15 : Nat) ≠ 0 by decide) rfl (Nat.le_of_ble_eq_true rfl) ⟨by decide, by decide⟩ (Nat.le_of_ble_eq_true rfl) rfl (tX10_isState u1 (nI 0) M2) rfl (fun v11 M10 => ?_)
          refine K_if_eq (q := 60) (tgt := 64) dX10_knows_57 rfl ?_ rfl ?_
          · refine K_iconst (q := 65) (v := nI 0) dX10_knows_64 rfl rfl ?_
            exact J_zret dX10_knows_65 (by decide)
          · refine K_iconst (q := 61) (v := nI 1) dX10_knows_60 rfl rfl ?_
            refine J_goto (tgt := 65) dX10_knows_61 rfl ?_
            exact J_zret dX10_knows_65 (by decide)
