theorem ws_in2 : ∀ w ∈ u_ws RX6 TX6 3, w ∈ j_ws := j_in_r _ [335, 337, 339] (by decide +kernel) (by decide +kernel)
theorem fRX6_30 : j_F RX6 30 2 2 := ⟨RX6, TX6, 3, rfl, by decide, ws_in2, j_in 333 (by decide +kernel) (by decide +kernel)⟩
theorem fRX6_23 : j_F RX6 23 2 1 := ⟨RX6, TX6, 3, rfl, by decide, ws_in2, j_in 331 (by decide +kernel) (by decide +kernel)⟩
theorem fRX6_63 : j_F RX6 63 0 8 := ⟨RX1, TX1, 15, rfl, by decide, ws_in0, j_in 241 (by decide +kernel) (by decide +kernel)⟩
theorem cb_X9_draw : j_CB yX9_draw cX9_draw 2 (some .int) 1 := ⟨by decide +kernel, j_in 857 (by decide +kernel) (by decide +kernel), j_in 112 (by decide +kernel) (by decide +kernel), by decide +kernel, by decide +kernel, by decide +kernel⟩
theorem cvRX6_76 : j_CV RX6 76 yX9_draw := ⟨Or.inl (j_in 854 (by decide +kernel) (by decide +kernel)), j_in 855 (by decide +kernel) (by decide +kernel), j_in 856 (by decide +kernel) (by decide +kernel)⟩
theorem fRX6_94 : j_F RX6 94 4 0 := ⟨RX9, TX9, 8, rfl, by decide, ws_in4, j_in 293 (by decide +kernel) (by decide +kernel)⟩
theorem fRX6_79 : j_F RX6 79 4 2 := ⟨RX9, TX9, 8, rfl, by decide, ws_in4, j_in 298 (by decide +kernel) (by decide +kernel)⟩
theorem cb_X0_keyword : j_CB yX0_keyword cX0_keyword 1 (some .int) 1 := ⟨by decide +kernel, j_in 818 (by decide +kernel) (by decide +kernel), j_in 121 (by decide +kernel) (by decide +kernel), by decide +kernel, by decide +kernel, by decide +kernel⟩
theorem cvRX6_97 : j_CS RX6 97 yX0_keyword := ⟨Or.inl (j_in 816 (by decide +kernel) (by decide +kernel)), j_in 817 (by decide +kernel) (by decide +kernel)⟩
theorem cb_X0_first : j_CB yX0_first cX0_first 1 (some .int) 1 := ⟨by decide +kernel, j_in 815 (by decide +kernel) (by decide +kernel), j_in 121 (by decide +kernel) (by decide +kernel), by decide +kernel, by decide +kernel, by decide +kernel⟩
theorem cvRX6_102 : j_CS RX6 102 yX0_first := ⟨Or.inl (j_in 813 (by decide +kernel) (by decide +kernel)), j_in 814 (by decide +kernel) (by decide +kernel)⟩
theorem cb_X0_second : j_CB yX0_second cX0_second 1 (some .int) 1 := ⟨by decide +kernel, j_in 832 (by decide +kernel) (by decide +kernel), j_in 121 (by decide +kernel) (by decide +kernel), by decide +kernel, by decide +kernel, by decide +kernel⟩
theorem cvRX6_105 : j_CS RX6 105 yX0_second := ⟨Or.inl (j_in 830 (by decide +kernel) (by decide +kernel)), j_in 831 (by decide +kernel) (by decide +kernel)⟩
theorem cb_X1_access : j_CB yX1_access cX1_access 5 (some .int) 4 := ⟨by decide +kernel, j_in 468 (by decide +kernel) (by decide +kernel), j_in 110 (by decide +kernel) (by decide +kernel), by decide +kernel, by decide +kernel, by decide +kernel⟩
theorem cvRX6_108 : j_CV RX6 108 yX1_access := ⟨Or.inl (j_in 849 (by decide +kernel) (by decide +kernel)), j_in 466 (by decide +kernel) (by decide +kernel), j_in 467 (by decide +kernel) (by decide +kernel)⟩
theorem fRX6_91 : j_F RX6 91 4 3 := ⟨RX9, TX9, 8, rfl, by decide, ws_in4, j_in 301 (by decide +kernel) (by decide +kernel)⟩
theorem fRX6_88 : j_F RX6 88 0 14 := ⟨RX1, TX1, 15, rfl, by decide, ws_in0, j_in 253 (by decide +kernel) (by decide +kernel)⟩
theorem fRX6_82 : j_F RX6 82 4 1 := ⟨RX9, TX9, 8, rfl, by decide, ws_in4, j_in 295 (by decide +kernel) (by decide +kernel)⟩
theorem cvRX6_85 : j_CV RX6 85 yX1_missOf := ⟨Or.inl (j_in 844 (by decide +kernel) (by decide +kernel)), j_in 428 (by decide +kernel) (by decide +kernel), j_in 429 (by decide +kernel) (by decide +kernel)⟩
theorem fRX6_12 : j_F RX6 12 2 0 := ⟨RX6, TX6, 3, rfl, by decide, ws_in2, j_in 329 (by decide +kernel) (by decide +kernel)⟩
theorem fRX6_43 : j_F RX6 43 1 7 := ⟨RX5, TX5, 15, rfl, by decide, ws_in1, j_in 166 (by decide +kernel) (by decide +kernel)⟩
theorem cvRX6_47 : j_CS RX6 47 yX5_sum := ⟨Or.inl (j_in 837 (by decide +kernel) (by decide +kernel)), j_in 838 (by decide +kernel) (by decide +kernel)⟩
theorem fRX6_51 : j_F RX6 51 0 9 := ⟨RX1, TX1, 15, rfl, by decide, ws_in0, j_in 245 (by decide +kernel) (by decide +kernel)⟩
theorem cb_X6_isReady : j_CB yX6_isReady cX6_isReady 2 (some .boolean) 1 := ⟨by decide +kernel, j_in 843 (by decide +kernel) (by decide +kernel), j_in 108 (by decide +kernel) (by decide +kernel), by decide +kernel, by decide +kernel, by decide +kernel⟩
theorem cvRX6_55 : j_CV RX6 55 yX6_isReady := ⟨Or.inl (j_in 840 (by decide +kernel) (by decide +kernel)), j_in 842 (by decide +kernel) (by decide +kernel), j_in 11 (by decide +kernel) (by decide +kernel)⟩
theorem cb_X6_doNextAct : j_CB yX6_doNextAct cX6_doNextAct 3 none 1 := ⟨by decide +kernel, j_in 848 (by decide +kernel) (by decide +kernel), j_in 108 (by decide +kernel) (by decide +kernel), by decide +kernel, by decide +kernel, by decide +kernel⟩
theorem cvRX6_59 : j_CV RX6 59 yX6_doNextAct := ⟨Or.inl (j_in 845 (by decide +kernel) (by decide +kernel)), j_in 847 (by decide +kernel) (by decide +kernel), j_in 12 (by decide +kernel) (by decide +kernel)⟩
theorem cb_X6_choose : j_CB yX6_choose cX6_choose 2 (some .int) 1 := ⟨by decide +kernel, j_in 853 (by decide +kernel) (by decide +kernel), j_in 108 (by decide +kernel) (by decide +kernel), by decide +kernel, by decide +kernel, by decide +kernel⟩
theorem cvRX6_66 : j_CV RX6 66 yX6_choose := ⟨Or.inl (j_in 850 (by decide +kernel) (by decide +kernel)), j_in 852 (by decide +kernel) (by decide +kernel), j_in 13 (by decide +kernel) (by decide +kernel)⟩
theorem cvRX6_70 : j_CV RX6 70 yX1_deliverAt := ⟨Or.inl (j_in 860 (by decide +kernel) (by decide +kernel)), j_in 566 (by decide +kernel) (by decide +kernel), j_in 567 (by decide +kernel) (by decide +kernel)⟩
theorem cvRX6_73 : j_CV RX6 73 yX1_tickOnce := ⟨Or.inl (j_in 861 (by decide +kernel) (by decide +kernel)), j_in 673 (by decide +kernel) (by decide +kernel), j_in 674 (by decide +kernel) (by decide +kernel)⟩
theorem cb_X5_become : j_CB yX5_become cX5_become 2 none 1 := ⟨by decide +kernel, j_in 1138 (by decide +kernel) (by decide +kernel), j_in 109 (by decide +kernel) (by decide +kernel), by decide +kernel, by decide +kernel, by decide +kernel⟩
theorem cvRX6_34 : j_CV RX6 34 yX5_become := ⟨Or.inl (j_in 1135 (by decide +kernel) (by decide +kernel)), j_in 1136 (by decide +kernel) (by decide +kernel), j_in 1137 (by decide +kernel) (by decide +kernel)⟩
theorem cb_X1_become : j_CB yX1_become cX1_become 2 none 1 := ⟨by decide +kernel, j_in 955 (by decide +kernel) (by decide +kernel), j_in 110 (by decide +kernel) (by decide +kernel), by decide +kernel, by decide +kernel, by decide +kernel⟩
theorem cvRX6_37 : j_CV RX6 37 yX1_become := ⟨Or.inl (j_in 1140 (by decide +kernel) (by decide +kernel)), j_in 953 (by decide +kernel) (by decide +kernel), j_in 954 (by decide +kernel) (by decide +kernel)⟩
theorem cb_X9_become : j_CB yX9_become cX9_become 2 none 1 := ⟨by decide +kernel, j_in 1144 (by decide +kernel) (by decide +kernel), j_in 112 (by decide +kernel) (by decide +kernel), by decide +kernel, by decide +kernel, by decide +kernel⟩
theorem cvRX6_40 : j_CV RX6 40 yX9_become := ⟨Or.inl (j_in 1141 (by decide +kernel) (by decide +kernel)), j_in 1142 (by decide +kernel) (by decide +kernel), j_in 1143 (by decide +kernel) (by decide +kernel)⟩
theorem cb_X1_mayBegin : j_CB yX1_mayBegin cX1_mayBegin 4 (some .boolean) 3 := ⟨by decide +kernel, j_in 457 (by decide +kernel) (by decide +kernel), j_in 110 (by decide +kernel) (by decide +kernel), by decide +kernel, by decide +kernel, by decide +kernel⟩
theorem cvRX6_149 : j_CV RX6 149 yX1_mayBegin := ⟨Or.inl (j_in 867 (by decide +kernel) (by decide +kernel)), j_in 455 (by decide +kernel) (by decide +kernel), j_in 456 (by decide +kernel) (by decide +kernel)⟩
theorem fRX6_112 : j_F RX6 112 4 4 := ⟨RX9, TX9, 8, rfl, by decide, ws_in4, j_in 304 (by decide +kernel) (by decide +kernel)⟩
theorem fRX6_115 : j_F RX6 115 4 6 := ⟨RX9, TX9, 8, rfl, by decide, ws_in4, j_in 308 (by decide +kernel) (by decide +kernel)⟩
theorem cb_X1_hasTime : j_CB yX1_hasTime cX1_hasTime 2 (some .boolean) 1 := ⟨by decide +kernel, j_in 667 (by decide +kernel) (by decide +kernel), j_in 110 (by decide +kernel) (by decide +kernel), by decide +kernel, by decide +kernel, by decide +kernel⟩
theorem cvRX6_118 : j_CV RX6 118 yX1_hasTime := ⟨Or.inl (j_in 819 (by decide +kernel) (by decide +kernel)), j_in 665 (by decide +kernel) (by decide +kernel), j_in 666 (by decide +kernel) (by decide +kernel)⟩
theorem cb_X0_cpu : j_CB yX0_cpu cX0_cpu 1 (some .int) 1 := ⟨by decide +kernel, j_in 822 (by decide +kernel) (by decide +kernel), j_in 121 (by decide +kernel) (by decide +kernel), by decide +kernel, by decide +kernel, by decide +kernel⟩
theorem cvRX6_121 : j_CS RX6 121 yX0_cpu := ⟨Or.inl (j_in 820 (by decide +kernel) (by decide +kernel)), j_in 821 (by decide +kernel) (by decide +kernel)⟩
theorem cb_X1_evictIfAllowed : j_CB yX1_evictIfAllowed cX1_evictIfAllowed 3 (some .boolean) 2 := ⟨by decide +kernel, j_in 541 (by decide +kernel) (by decide +kernel), j_in 110 (by decide +kernel) (by decide +kernel), by decide +kernel, by decide +kernel, by decide +kernel⟩
theorem cvRX6_124 : j_CV RX6 124 yX1_evictIfAllowed := ⟨Or.inl (j_in 823 (by decide +kernel) (by decide +kernel)), j_in 539 (by decide +kernel) (by decide +kernel), j_in 540 (by decide +kernel) (by decide +kernel)⟩
theorem cb_X1_deliverMany : j_CB yX1_deliverMany cX1_deliverMany 4 (some .int) 2 := ⟨by decide +kernel, j_in 827 (by decide +kernel) (by decide +kernel), j_in 110 (by decide +kernel) (by decide +kernel), by decide +kernel, by decide +kernel, by decide +kernel⟩
theorem cvRX6_128 : j_CV RX6 128 yX1_deliverMany := ⟨Or.inl (j_in 824 (by decide +kernel) (by decide +kernel)), j_in 825 (by decide +kernel) (by decide +kernel), j_in 826 (by decide +kernel) (by decide +kernel)⟩
theorem cb_X1_ticks : j_CB yX1_ticks cX1_ticks 3 none 1 := ⟨by decide +kernel, j_in 671 (by decide +kernel) (by decide +kernel), j_in 110 (by decide +kernel) (by decide +kernel), by decide +kernel, by decide +kernel, by decide +kernel⟩
theorem cvRX6_132 : j_CV RX6 132 yX1_ticks := ⟨Or.inl (j_in 828 (by decide +kernel) (by decide +kernel)), j_in 669 (by decide +kernel) (by decide +kernel), j_in 670 (by decide +kernel) (by decide +kernel)⟩
theorem cb_X1_calmRounds : j_CB yX1_calmRounds cX1_calmRounds 5 (some .int) 1 := ⟨by decide +kernel, j_in 694 (by decide +kernel) (by decide +kernel), j_in 110 (by decide +kernel) (by decide +kernel), by decide +kernel, by decide +kernel, by decide +kernel⟩
theorem cvRX6_135 : j_CV RX6 135 yX1_calmRounds := ⟨Or.inl (j_in 829 (by decide +kernel) (by decide +kernel)), j_in 692 (by decide +kernel) (by decide +kernel), j_in 693 (by decide +kernel) (by decide +kernel)⟩
theorem cb_X6_goRounds : j_CB yX6_goRounds cX6_goRounds 6 (some .int) 2 := ⟨by decide +kernel, j_in 836 (by decide +kernel) (by decide +kernel), j_in 108 (by decide +kernel) (by decide +kernel), by decide +kernel, by decide +kernel, by decide +kernel⟩
theorem cvRX6_138 : j_CV RX6 138 yX6_goRounds := ⟨Or.inl (j_in 833 (by decide +kernel) (by decide +kernel)), j_in 834 (by decide +kernel) (by decide +kernel), j_in 835 (by decide +kernel) (by decide +kernel)⟩
theorem cb_X1_setPolicy : j_CB yX1_setPolicy cX1_setPolicy 2 (some .boolean) 1 := ⟨by decide +kernel, j_in 445 (by decide +kernel) (by decide +kernel), j_in 110 (by decide +kernel) (by decide +kernel), by decide +kernel, by decide +kernel, by decide +kernel⟩
theorem cvRX6_142 : j_CV RX6 142 yX1_setPolicy := ⟨Or.inl (j_in 862 (by decide +kernel) (by decide +kernel)), j_in 443 (by decide +kernel) (by decide +kernel), j_in 444 (by decide +kernel) (by decide +kernel)⟩
theorem cb_X6_begin : j_CB yX6_begin cX6_begin 5 (some .boolean) 4 := ⟨by decide +kernel, j_in 866 (by decide +kernel) (by decide +kernel), j_in 108 (by decide +kernel) (by decide +kernel), by decide +kernel, by decide +kernel, by decide +kernel⟩
theorem cvRX6_145 : j_CV RX6 145 yX6_begin := ⟨Or.inl (j_in 863 (by decide +kernel) (by decide +kernel)), j_in 865 (by decide +kernel) (by decide +kernel), j_in 14 (by decide +kernel) (by decide +kernel)⟩
theorem dX6_choose_0 : decode cX6_choose 0 = .ok (.iload_n 1, 1) := by decide +kernel
theorem dX6_choose_1 : decode cX6_choose 1 = .ok (.ifCond .ne 5, 3) := by decide +kernel
theorem dX6_choose_4 : decode cX6_choose 4 = .ok (.iconst 0, 1) := by decide +kernel
theorem dX6_choose_5 : decode cX6_choose 5 = .ok (.ireturn, 1) := by decide +kernel
theorem dX6_choose_6 : decode cX6_choose 6 = .ok (.iload_n 1, 1) := by decide +kernel
theorem dX6_choose_7 : decode cX6_choose 7 = .ok (.iconst 1, 1) := by decide +kernel
theorem dX6_choose_8 : decode cX6_choose 8 = .ok (.if_icmp .ne 15, 3) := by decide +kernel
theorem dX6_choose_11 : decode cX6_choose 11 = .ok (.aload_n 0, 1) := by decide +kernel
theorem dX6_choose_12 : decode cX6_choose 12 = .ok (.getfield 23, 3) := by decide +kernel
theorem dX6_choose_15 : decode cX6_choose 15 = .ok (.getfield 63, 3) := by decide +kernel
theorem dX6_choose_18 : decode cX6_choose 18 = .ok (.iconst 1, 1) := by decide +kernel
theorem dX6_choose_19 : decode cX6_choose 19 = .ok (.isub, 1) := by decide +kernel
theorem dX6_choose_20 : decode cX6_choose 20 = .ok (.goto 17, 3) := by decide +kernel
theorem dX6_choose_23 : decode cX6_choose 23 = .ok (.aload_n 0, 1) := by decide +kernel
theorem dX6_choose_24 : decode cX6_choose 24 = .ok (.getfield 30, 3) := by decide +kernel
theorem dX6_choose_27 : decode cX6_choose 27 = .ok (.aload_n 0, 1) := by decide +kernel
theorem dX6_choose_28 : decode cX6_choose 28 = .ok (.getfield 23, 3) := by decide +kernel
theorem dX6_choose_31 : decode cX6_choose 31 = .ok (.getfield 63, 3) := by decide +kernel
theorem dX6_choose_34 : decode cX6_choose 34 = .ok (.invokevirtual 76, 3) := by decide +kernel
theorem dX6_choose_37 : decode cX6_choose 37 = .ok (.ireturn, 1) := by decide +kernel
def xX6_choose (t : Nat) (l1 : Int32) (M : j_M) : Option (Int32 × j_M) := (if l1 = (0 : Int32) then some ((nI 0), M) else (if l1 = (nI 1) then oli (M (t + 1) 8) fun v4 => some (v4 - (nI 1), M) else oli (M (t + 1) 8) fun v1 => obi (xX9_draw (t + 21) v1 M) fun v3 M2 => some (v3, M2)))
set_option maxRecDepth 20000 in
set_option maxHeartbeats 2000000 in
theorem tX6_choose (t : Nat) (l1 : Int32) (M : j_M) : J (ρ := Int32 × j_M) yX6_choose cX6_choose 2 (some .int) 1 21 j_ei 0 [(0, .inr (12, 0, t)), (1, .inl (l1))] [] M (xX6_choose t l1 M) := by
  unfold xX6_choose
  refine K_iload_n (q := 1) 1 dX6_choose_0 rfl rfl rfl ?_
  refine K_if_ne (q := 4) (tgt := 6) dX6_choose_1 rfl ?_ rfl ?_
  · refine K_iload_n (q := 7) 1 dX6_choose_6 rfl rfl rfl ?_
    refine K_iconst (q := 8) (v := nI 1) dX6_choose_7 rfl rfl ?_
    refine K_icmp_ne (q := 11) (tgt := 23) dX6_choose_8 rfl ?_ rfl ?_
    · refine K_aload_n (q := 24) 0 dX6_choose_23 rfl rfl rfl ?_
      refine K_getR (q := 27) (ci := 2) (a2 := t + 21) 2 dX6_choose_24 fRX6_30 rfl rfl (by decide) rfl rfl ?_
      refine K_aload_n (q := 28) 0 dX6_choose_27 rfl rfl rfl ?_
      refine K_getR (q := 31) (ci := 2) (a2 := t + 1) 1 dX6_choose_28 fRX6_23 rfl rfl (by decide) rfl rfl ?_
      refine K_getI (q := 34) (ci := 0) 8 dX6_choose_31 fRX6_63 rfl rfl rfl (fun v1 => ?_)
      refine K_cvi (q := 37) [.inl (v1)] dX6_choose_34 cb_X9_draw cvRX6_76 rc_4 (show (14 : Nat) ≠ 0 by decide) rfl (Nat.le_of_ble_eq_true rfl) ⟨by decide, by decide⟩ (Nat.le_of_ble_eq_true rfl) rfl (tX9_draw (t + 21) v1 M) rfl (fun v3 M2 => ?_)
      exact J_iret dX6_choose_37
    · refine K_aload_n (q := 12) 0 dX6_choose_11 rfl rfl rfl ?_
      refine K_getR (q := 15) (ci := 2) (a2 := t + 1) 1 dX6_choose_12 fRX6_23 rfl rfl (by decide) rfl rfl ?_
      refine K_getI (q := 18) (ci := 0) 8 dX6_choose_15 fRX6_63 rfl rfl rfl (fun v4 => ?_)
      refine K_iconst (q := 19) (v := nI 1) dX6_choose_18 rfl rfl ?_
      refine K_isub (q := 20) dX6_choose_19 rfl ?_
      refine J_goto (tgt := 37) dX6_choose_20 rfl ?_
      exact J_iret dX6_choose_37
  · refine K_iconst (q := 5) (v := nI 0) dX6_choose_4 rfl rfl ?_
    exact J_iret dX6_choose_5
theorem dX6_doNextAct_0 : decode cX6_doNextAct 0 = .ok (.aload_n 0, 1) := by decide +kernel
theorem dX6_doNextAct_1 : decode cX6_doNextAct 1 = .ok (.getfield 30, 3) := by decide +kernel
theorem dX6_doNextAct_4 : decode cX6_doNextAct 4 = .ok (.getfield 94, 3) := by decide +kernel
theorem dX6_doNextAct_7 : decode cX6_doNextAct 7 = .ok (.iload_n 1, 1) := by decide +kernel
theorem dX6_doNextAct_8 : decode cX6_doNextAct 8 = .ok (.sipush 200, 3) := by decide +kernel
theorem dX6_doNextAct_11 : decode cX6_doNextAct 11 = .ok (.imul, 1) := by decide +kernel
theorem dX6_doNextAct_12 : decode cX6_doNextAct 12 = .ok (.aload_n 0, 1) := by decide +kernel
theorem dX6_doNextAct_13 : decode cX6_doNextAct 13 = .ok (.getfield 30, 3) := by decide +kernel
theorem dX6_doNextAct_16 : decode cX6_doNextAct 16 = .ok (.getfield 79, 3) := by decide +kernel
theorem dX6_doNextAct_19 : decode cX6_doNextAct 19 = .ok (.iload_n 1, 1) := by decide +kernel
theorem dX6_doNextAct_20 : decode cX6_doNextAct 20 = .ok (.iaload, 1) := by decide +kernel
theorem dX6_doNextAct_21 : decode cX6_doNextAct 21 = .ok (.iadd, 1) := by decide +kernel
theorem dX6_doNextAct_22 : decode cX6_doNextAct 22 = .ok (.iaload, 1) := by decide +kernel
theorem dX6_doNextAct_23 : decode cX6_doNextAct 23 = .ok (.istore_n 2, 1) := by decide +kernel
theorem dX6_doNextAct_24 : decode cX6_doNextAct 24 = .ok (.aload_n 0, 1) := by decide +kernel
theorem dX6_doNextAct_25 : decode cX6_doNextAct 25 = .ok (.getfield 30, 3) := by decide +kernel
theorem dX6_doNextAct_28 : decode cX6_doNextAct 28 = .ok (.getfield 79, 3) := by decide +kernel
theorem dX6_doNextAct_31 : decode cX6_doNextAct 31 = .ok (.iload_n 1, 1) := by decide +kernel
theorem dX6_doNextAct_32 : decode cX6_doNextAct 32 = .ok (.dup2, 1) := by decide +kernel
theorem dX6_doNextAct_33 : decode cX6_doNextAct 33 = .ok (.iaload, 1) := by decide +kernel
theorem dX6_doNextAct_34 : decode cX6_doNextAct 34 = .ok (.iconst 1, 1) := by decide +kernel
theorem dX6_doNextAct_35 : decode cX6_doNextAct 35 = .ok (.iadd, 1) := by decide +kernel
theorem dX6_doNextAct_36 : decode cX6_doNextAct 36 = .ok (.iastore, 1) := by decide +kernel
theorem dX6_doNextAct_37 : decode cX6_doNextAct 37 = .ok (.iload_n 2, 1) := by decide +kernel
theorem dX6_doNextAct_38 : decode cX6_doNextAct 38 = .ok (.invokestatic 97, 3) := by decide +kernel
theorem dX6_doNextAct_41 : decode cX6_doNextAct 41 = .ok (.iconst 4, 1) := by decide +kernel
theorem dX6_doNextAct_42 : decode cX6_doNextAct 42 = .ok (.if_icmp .ne 27, 3) := by decide +kernel
theorem dX6_doNextAct_45 : decode cX6_doNextAct 45 = .ok (.aload_n 0, 1) := by decide +kernel
theorem dX6_doNextAct_46 : decode cX6_doNextAct 46 = .ok (.getfield 30, 3) := by decide +kernel
theorem dX6_doNextAct_49 : decode cX6_doNextAct 49 = .ok (.getfield 91, 3) := by decide +kernel
theorem dX6_doNextAct_52 : decode cX6_doNextAct 52 = .ok (.iload_n 1, 1) := by decide +kernel
theorem dX6_doNextAct_53 : decode cX6_doNextAct 53 = .ok (.aload_n 0, 1) := by decide +kernel
theorem dX6_doNextAct_54 : decode cX6_doNextAct 54 = .ok (.getfield 23, 3) := by decide +kernel
theorem dX6_doNextAct_57 : decode cX6_doNextAct 57 = .ok (.getfield 88, 3) := by decide +kernel
theorem dX6_doNextAct_60 : decode cX6_doNextAct 60 = .ok (.iload_n 2, 1) := by decide +kernel
theorem dX6_doNextAct_61 : decode cX6_doNextAct 61 = .ok (.invokestatic 102, 3) := by decide +kernel
theorem dX6_doNextAct_64 : decode cX6_doNextAct 64 = .ok (.iadd, 1) := by decide +kernel
theorem dX6_doNextAct_65 : decode cX6_doNextAct 65 = .ok (.iastore, 1) := by decide +kernel
theorem dX6_doNextAct_66 : decode cX6_doNextAct 66 = .ok (.goto 24, 3) := by decide +kernel
theorem dX6_doNextAct_69 : decode cX6_doNextAct 69 = .ok (.aload_n 0, 1) := by decide +kernel
theorem dX6_doNextAct_70 : decode cX6_doNextAct 70 = .ok (.getfield 23, 3) := by decide +kernel
theorem dX6_doNextAct_73 : decode cX6_doNextAct 73 = .ok (.iload_n 1, 1) := by decide +kernel
theorem dX6_doNextAct_74 : decode cX6_doNextAct 74 = .ok (.iload_n 2, 1) := by decide +kernel
theorem dX6_doNextAct_75 : decode cX6_doNextAct 75 = .ok (.invokestatic 102, 3) := by decide +kernel
theorem dX6_doNextAct_78 : decode cX6_doNextAct 78 = .ok (.iload_n 2, 1) := by decide +kernel
theorem dX6_doNextAct_79 : decode cX6_doNextAct 79 = .ok (.invokestatic 97, 3) := by decide +kernel
theorem dX6_doNextAct_82 : decode cX6_doNextAct 82 = .ok (.iload_n 2, 1) := by decide +kernel
theorem dX6_doNextAct_83 : decode cX6_doNextAct 83 = .ok (.invokestatic 105, 3) := by decide +kernel
theorem dX6_doNextAct_86 : decode cX6_doNextAct 86 = .ok (.invokevirtual 108, 3) := by decide +kernel
theorem dX6_doNextAct_89 : decode cX6_doNextAct 89 = .ok (.pop, 1) := by decide +kernel
theorem dX6_doNextAct_90 : decode cX6_doNextAct 90 = .ok (.return_, 1) := by decide +kernel
def xX6_doNextAct (t : Nat) (l1 : Int32) (M : j_M) : Option (j_M) := gd l1 6 (oli (M (t + 24) (ix l1)) fun v1 => gd ((l1 * (nI 200)) + v1) 1200 (oli (M (t + 22) (ix ((l1 * (nI 200)) + v1))) fun v2 => gd l1 6 (oli (M (t + 24) (ix l1)) fun v3 => gd l1 6 (oml (mw M (t + 24) (ix l1) (v3 + (nI 1))) fun M4 => obi (xX0_keyword v2 M4) fun v6 M5 => (if v6 = (nI 4) then oli (M5 (t + 1) 14) fun v15 => obi (xX0_first v2 M5) fun v17 M16 => gd l1 6 (oml (mw M16 (t + 25) (ix l1) (v15 + v17)) fun M18 => some M18) else obi (xX0_first v2 M5) fun v8 M7 => obi (xX0_keyword v2 M7) fun v10 M9 => obi (xX0_second v2 M9) fun v12 M11 => obi (xX1_access (t + 1) l1 v8 v10 v12 M11) fun v14 M13 => some M13)))))
set_option maxRecDepth 20000 in
set_option maxHeartbeats 2000000 in
theorem tX6_doNextAct (t : Nat) (l1 : Int32) (M : j_M) : J (ρ := j_M) yX6_doNextAct cX6_doNextAct 3 none 4 93 j_ev 0 [(0, .inr (12, 0, t)), (1, .inl (l1))] [] M (xX6_doNextAct t l1 M) := by
  unfold xX6_doNextAct
  refine K_aload_n (q := 1) 0 dX6_doNextAct_0 rfl rfl rfl ?_
  refine K_getR (q := 4) (ci := 2) (a2 := t + 21) 2 dX6_doNextAct_1 fRX6_30 rfl rfl (by decide) rfl rfl ?_
  refine K_getR (q := 7) (ci := 4) (a2 := t + 22) 0 dX6_doNextAct_4 fRX6_94 rfl rfl (by decide) rfl rfl ?_
  refine K_iload_n (q := 8) 1 dX6_doNextAct_7 rfl rfl rfl ?_
  refine K_sipush (q := 11) (v := nI 200) dX6_doNextAct_8 rfl rfl ?_
  refine K_imul (q := 12) dX6_doNextAct_11 rfl ?_
  refine K_aload_n (q := 13) 0 dX6_doNextAct_12 rfl rfl rfl ?_
  refine K_getR (q := 16) (ci := 2) (a2 := t + 21) 2 dX6_doNextAct_13 fRX6_30 rfl rfl (by decide) rfl rfl ?_
  refine K_getR (q := 19) (ci := 4) (a2 := t + 24) 2 dX6_doNextAct_16 fRX6_79 rfl rfl (by decide) rfl rfl ?_
  refine K_iload_n (q := 20) 1 dX6_doNextAct_19 rfl rfl rfl ?_
  refine K_iald (q := 21) dX6_doNextAct_20 rfl (fun v1 => ?_)
  refine K_iadd (q := 22) dX6_doNextAct_21 rfl ?_
  refine K_iald (q := 23) dX6_doNextAct_22 rfl (fun v2 => ?_)
  refine K_istore_n (q := 24) (ll' := [(2, .inl (v2)), (0, .inr (12, 0, t)), (1, .inl (l1))]) dX6_doNextAct_23 rfl (by decide) rfl rfl ?_
  refine K_aload_n (q := 25) 1 dX6_doNextAct_24 rfl rfl rfl ?_
  refine K_getR (q := 28) (ci := 2) (a2 := t + 21) 2 dX6_doNextAct_25 fRX6_30 rfl rfl (by decide) rfl rfl ?_
  refine K_getR (q := 31) (ci := 4) (a2 := t + 24) 2 dX6_doNextAct_28 fRX6_79 rfl rfl (by decide) rfl rfl ?_
  refine K_iload_n (q := 32) 2 dX6_doNextAct_31 rfl rfl rfl ?_
  refine K_dup2 (q := 33) dX6_doNextAct_32 rfl ?_
  refine K_iald (q := 34) dX6_doNextAct_33 rfl (fun v3 => ?_)
  refine K_iconst (q := 35) (v := nI 1) dX6_doNextAct_34 rfl rfl ?_
  refine K_iadd (q := 36) dX6_doNextAct_35 rfl ?_
  refine K_iast (q := 37) dX6_doNextAct_36 rfl (fun M4 => ?_)
  refine K_iload_n (q := 38) 0 dX6_doNextAct_37 rfl rfl rfl ?_
  refine K_csi (q := 41) [.inl (v2)] dX6_doNextAct_38 cb_X0_keyword cvRX6_97 rfl (Nat.le_of_ble_eq_true rfl) ⟨by decide, by decide⟩ (Nat.le_of_ble_eq_true rfl) rfl (tX0_keyword v2 M4) rfl (fun v6 M5 => ?_)
  refine K_iconst (q := 42) (v := nI 4) dX6_doNextAct_41 rfl rfl ?_
  refine K_icmp_ne (q := 45) (tgt := 69) dX6_doNextAct_42 rfl ?_ rfl ?_
  · refine K_aload_n (q := 70) 1 dX6_doNextAct_69 rfl rfl rfl ?_
    refine K_getR (q := 73) (ci := 2) (a2 := t + 1) 1 dX6_doNextAct_70 fRX6_23 rfl rfl (by decide) rfl rfl ?_
    refine K_iload_n (q := 74) 2 dX6_doNextAct_73 rfl rfl rfl ?_
    refine K_iload_n (q := 75) 0 dX6_doNextAct_74 rfl rfl rfl ?_
    refine K_csi (q := 78) [.inl (v2)] dX6_doNextAct_75 cb_X0_first cvRX6_102 rfl (Nat.le_of_ble_eq_true rfl) ⟨by decide, by decide⟩ (Nat.le_of_ble_eq_true rfl) rfl (tX0_first v2 M5) rfl (fun v8 M7 => ?_)
    refine K_iload_n (q := 79) 0 dX6_doNextAct_78 rfl rfl rfl ?_
    refine K_csi (q := 82) [.inl (v2)] dX6_doNextAct_79 cb_X0_keyword cvRX6_97 rfl (Nat.le_of_ble_eq_true rfl) ⟨by decide, by decide⟩ (Nat.le_of_ble_eq_true rfl) rfl (tX0_keyword v2 M7) rfl (fun v10 M9 => ?_)
    refine K_iload_n (q := 83) 0 dX6_doNextAct_82 rfl rfl rfl ?_
    refine K_csi (q := 86) [.inl (v2)] dX6_doNextAct_83 cb_X0_second cvRX6_105 rfl (Nat.le_of_ble_eq_true rfl) ⟨by decide, by decide⟩ (Nat.le_of_ble_eq_true rfl) rfl (tX0_second v2 M9) rfl (fun v12 M11 => ?_)
    refine K_cvi (q := 89) [.inl (l1), .inl (v8), .inl (v10), .inl (v12)] dX6_doNextAct_86 cb_X1_access cvRX6_108 rc_0 (show (10 : Nat) ≠ 0 by decide) rfl (Nat.le_of_ble_eq_true rfl) ⟨by decide, by decide⟩ (Nat.le_of_ble_eq_true rfl) rfl (tX1_access (t + 1) l1 v8 v10 v12 M11) rfl (fun v14 M13 => ?_)
    refine K_pop (q := 90) dX6_doNextAct_89 rfl ?_
    exact J_vret dX6_doNextAct_90
  · refine K_aload_n (q := 46) 1 dX6_doNextAct_45 rfl rfl rfl ?_
    refine K_getR (q := 49) (ci := 2) (a2 := t + 21) 2 dX6_doNextAct_46 fRX6_30 rfl rfl (by decide) rfl rfl ?_
    refine K_getR (q := 52) (ci := 4) (a2 := t + 25) 3 dX6_doNextAct_49 fRX6_91 rfl rfl (by decide) rfl rfl ?_
    refine K_iload_n (q := 53) 2 dX6_doNextAct_52 rfl rfl rfl ?_
    refine K_aload_n (q := 54) 1 dX6_doNextAct_53 rfl rfl rfl ?_
    refine K_getR (q := 57) (ci := 2) (a2 := t + 1) 1 dX6_doNextAct_54 fRX6_23 rfl rfl (by decide) rfl rfl ?_
    refine K_getI (q := 60) (ci := 0) 14 dX6_doNextAct_57 fRX6_88 rfl rfl rfl (fun v15 => ?_)
    refine K_iload_n (q := 61) 0 dX6_doNextAct_60 rfl rfl rfl ?_
    refine K_csi (q := 64) [.inl (v2)] dX6_doNextAct_61 cb_X0_first cvRX6_102 rfl (Nat.le_of_ble_eq_true rfl) ⟨by decide, by decide⟩ (Nat.le_of_ble_eq_true rfl) rfl (tX0_first v2 M5) rfl (fun v17 M16 => ?_)
    refine K_iadd (q := 65) dX6_doNextAct_64 rfl ?_
    refine K_iast (q := 66) dX6_doNextAct_65 rfl (fun M18 => ?_)
    refine J_goto (tgt := 90) dX6_doNextAct_66 rfl ?_
    exact J_vret dX6_doNextAct_90
theorem dX6_isReady_0 : decode cX6_isReady 0 = .ok (.aload_n 0, 1) := by decide +kernel
theorem dX6_isReady_1 : decode cX6_isReady 1 = .ok (.getfield 30, 3) := by decide +kernel
theorem dX6_isReady_4 : decode cX6_isReady 4 = .ok (.getfield 79, 3) := by decide +kernel
theorem dX6_isReady_7 : decode cX6_isReady 7 = .ok (.iload_n 1, 1) := by decide +kernel
theorem dX6_isReady_8 : decode cX6_isReady 8 = .ok (.iaload, 1) := by decide +kernel
theorem dX6_isReady_9 : decode cX6_isReady 9 = .ok (.aload_n 0, 1) := by decide +kernel
theorem dX6_isReady_10 : decode cX6_isReady 10 = .ok (.getfield 30, 3) := by decide +kernel
theorem dX6_isReady_13 : decode cX6_isReady 13 = .ok (.getfield 82, 3) := by decide +kernel
theorem dX6_isReady_16 : decode cX6_isReady 16 = .ok (.iload_n 1, 1) := by decide +kernel
theorem dX6_isReady_17 : decode cX6_isReady 17 = .ok (.iaload, 1) := by decide +kernel
theorem dX6_isReady_18 : decode cX6_isReady 18 = .ok (.if_icmp .ge 37, 3) := by decide +kernel
theorem dX6_isReady_21 : decode cX6_isReady 21 = .ok (.aload_n 0, 1) := by decide +kernel
theorem dX6_isReady_22 : decode cX6_isReady 22 = .ok (.getfield 23, 3) := by decide +kernel
theorem dX6_isReady_25 : decode cX6_isReady 25 = .ok (.iload_n 1, 1) := by decide +kernel
theorem dX6_isReady_26 : decode cX6_isReady 26 = .ok (.invokevirtual 85, 3) := by decide +kernel
theorem dX6_isReady_29 : decode cX6_isReady 29 = .ok (.ifCond .ne 26, 3) := by decide +kernel
theorem dX6_isReady_32 : decode cX6_isReady 32 = .ok (.aload_n 0, 1) := by decide +kernel
theorem dX6_isReady_33 : decode cX6_isReady 33 = .ok (.getfield 23, 3) := by decide +kernel
theorem dX6_isReady_36 : decode cX6_isReady 36 = .ok (.getfield 88, 3) := by decide +kernel
theorem dX6_isReady_39 : decode cX6_isReady 39 = .ok (.aload_n 0, 1) := by decide +kernel
theorem dX6_isReady_40 : decode cX6_isReady 40 = .ok (.getfield 30, 3) := by decide +kernel
theorem dX6_isReady_43 : decode cX6_isReady 43 = .ok (.getfield 91, 3) := by decide +kernel
theorem dX6_isReady_46 : decode cX6_isReady 46 = .ok (.iload_n 1, 1) := by decide +kernel
theorem dX6_isReady_47 : decode cX6_isReady 47 = .ok (.iaload, 1) := by decide +kernel
theorem dX6_isReady_48 : decode cX6_isReady 48 = .ok (.if_icmp .lt 7, 3) := by decide +kernel
theorem dX6_isReady_51 : decode cX6_isReady 51 = .ok (.iconst 1, 1) := by decide +kernel
theorem dX6_isReady_52 : decode cX6_isReady 52 = .ok (.goto 4, 3) := by decide +kernel
theorem dX6_isReady_55 : decode cX6_isReady 55 = .ok (.iconst 0, 1) := by decide +kernel
theorem dX6_isReady_56 : decode cX6_isReady 56 = .ok (.ireturn, 1) := by decide +kernel
def xX6_isReady (t : Nat) (l1 : Int32) (M : j_M) : Option (Int32 × j_M) := gd l1 6 (oli (M (t + 24) (ix l1)) fun v1 => gd l1 6 (oli (M (t + 23) (ix l1)) fun v2 => (if v2 ≤ v1 then some ((nI 0), M) else obi (xX1_missOf (t + 1) l1 M) fun v4 M3 => (if v4 = (0 : Int32) then oli (M3 (t + 1) 14) fun v5 => gd l1 6 (oli (M3 (t + 25) (ix l1)) fun v6 => (if v5 < v6 then some ((nI 0), M3) else some ((nI 1), M3))) else some ((nI 0), M3)))))
set_option maxRecDepth 20000 in
set_option maxHeartbeats 2000000 in
theorem tX6_isReady (t : Nat) (l1 : Int32) (M : j_M) : J (ρ := Int32 × j_M) yX6_isReady cX6_isReady 2 (some .boolean) 2 41 j_ei 0 [(0, .inr (12, 0, t)), (1, .inl (l1))] [] M (xX6_isReady t l1 M) := by
  unfold xX6_isReady
  refine K_aload_n (q := 1) 0 dX6_isReady_0 rfl rfl rfl ?_
  refine K_getR (q := 4) (ci := 2) (a2 := t + 21) 2 dX6_isReady_1 fRX6_30 rfl rfl (by decide) rfl rfl ?_
  refine K_getR (q := 7) (ci := 4) (a2 := t + 24) 2 dX6_isReady_4 fRX6_79 rfl rfl (by decide) rfl rfl ?_
  refine K_iload_n (q := 8) 1 dX6_isReady_7 rfl rfl rfl ?_
  refine K_iald (q := 9) dX6_isReady_8 rfl (fun v1 => ?_)
  refine K_aload_n (q := 10) 0 dX6_isReady_9 rfl rfl rfl ?_
  refine K_getR (q := 13) (ci := 2) (a2 := t + 21) 2 dX6_isReady_10 fRX6_30 rfl rfl (by decide) rfl rfl ?_
  refine K_getR (q := 16) (ci := 4) (a2 := t + 23) 1 dX6_isReady_13 fRX6_82 rfl rfl (by decide) rfl rfl ?_
  refine K_iload_n (q := 17) 1 dX6_isReady_16 rfl rfl rfl ?_
  refine K_iald (q := 18) dX6_isReady_17 rfl (fun v2 => ?_)
  refine K_icmp_ge (q := 21) (tgt := 55) dX6_isReady_18 rfl ?_ rfl ?_
  · refine K_iconst (q := 56) (v := nI 0) dX6_isReady_55 rfl rfl ?_
    exact J_zret dX6_isReady_56 (by decide)
  · refine K_aload_n (q := 22) 0 dX6_isReady_21 rfl rfl rfl ?_
    refine K_getR (q := 25) (ci := 2) (a2 := t + 1) 1 dX6_isReady_22 fRX6_23 rfl rfl (by decide) rfl rfl ?_
    refine K_iload_n (q := 26) 1 dX6_isReady_25 rfl rfl rfl ?_
    refine K_cvi (q := 29) [.inl (l1)] dX6_isReady_26 cb_X1_missOf cvRX6_85 rc_0 (show (10 : Nat) ≠ 0 by decide) rfl (Nat.le_of_ble_eq_true rfl) ⟨by decide, by decide⟩ (Nat.le_of_ble_eq_true rfl) rfl (tX1_missOf (t + 1) l1 M) rfl (fun v4 M3 => ?_)
    refine K_if_ne (q := 32) (tgt := 55) dX6_isReady_29 rfl ?_ rfl ?_
    · refine K_iconst (q := 56) (v := nI 0) dX6_isReady_55 rfl rfl ?_
      exact J_zret dX6_isReady_56 (by decide)
    · refine K_aload_n (q := 33) 0 dX6_isReady_32 rfl rfl rfl ?_
      refine K_getR (q := 36) (ci := 2) (a2 := t + 1) 1 dX6_isReady_33 fRX6_23 rfl rfl (by decide) rfl rfl ?_
      refine K_getI (q := 39) (ci := 0) 14 dX6_isReady_36 fRX6_88 rfl rfl rfl (fun v5 => ?_)
      refine K_aload_n (q := 40) 0 dX6_isReady_39 rfl rfl rfl ?_
      refine K_getR (q := 43) (ci := 2) (a2 := t + 21) 2 dX6_isReady_40 fRX6_30 rfl rfl (by decide) rfl rfl ?_
      refine K_getR (q := 46) (ci := 4) (a2 := t + 25) 3 dX6_isReady_43 fRX6_91 rfl rfl (by decide) rfl rfl ?_
      refine K_iload_n (q := 47) 1 dX6_isReady_46 rfl rfl rfl ?_
      refine K_iald (q := 48) dX6_isReady_47 rfl (fun v6 => ?_)
      refine K_icmp_lt (q := 51) (tgt := 55) dX6_isReady_48 rfl ?_ rfl ?_
      · refine K_iconst (q := 56) (v := nI 0) dX6_isReady_55 rfl rfl ?_
        exact J_zret dX6_isReady_56 (by decide)
      · refine K_iconst (q := 52) (v := nI 1) dX6_isReady_51 rfl rfl ?_
        refine J_goto (tgt := 56) dX6_isReady_52 rfl ?_
        exact J_zret dX6_isReady_56 (by decide)
theorem dX6_goRounds_0 : decode cX6_goRounds 0 = .ok (.aload_n 0, 1) := by decide +kernel
theorem dX6_goRounds_1 : decode cX6_goRounds 1 = .ok (.getfield 12, 3) := by decide +kernel
theorem dX6_goRounds_4 : decode cX6_goRounds 4 = .ok (.getfield 43, 3) := by decide +kernel
theorem dX6_goRounds_7 : decode cX6_goRounds 7 = .ok (.invokestatic 47, 3) := by decide +kernel
theorem dX6_goRounds_10 : decode cX6_goRounds 10 = .ok (.istore_n 3, 1) := by decide +kernel
theorem dX6_goRounds_11 : decode cX6_goRounds 11 = .ok (.iconst 0, 1) := by decide +kernel
theorem dX6_goRounds_12 : decode cX6_goRounds 12 = .ok (.istore 4, 2) := by decide +kernel
theorem dX6_goRounds_14 : decode cX6_goRounds 14 = .ok (.iload 4, 2) := by decide +kernel
theorem dX6_goRounds_16 : decode cX6_goRounds 16 = .ok (.iload_n 1, 1) := by decide +kernel
theorem dX6_goRounds_17 : decode cX6_goRounds 17 = .ok (.if_icmp .ge 90, 3) := by decide +kernel
theorem dX6_goRounds_20 : decode cX6_goRounds 20 = .ok (.iconst 0, 1) := by decide +kernel
theorem dX6_goRounds_21 : decode cX6_goRounds 21 = .ok (.istore 5, 2) := by decide +kernel
theorem dX6_goRounds_23 : decode cX6_goRounds 23 = .ok (.iload 5, 2) := by decide +kernel
theorem dX6_goRounds_25 : decode cX6_goRounds 25 = .ok (.aload_n 0, 1) := by decide +kernel
theorem dX6_goRounds_26 : decode cX6_goRounds 26 = .ok (.getfield 23, 3) := by decide +kernel
theorem dX6_goRounds_29 : decode cX6_goRounds 29 = .ok (.getfield 51, 3) := by decide +kernel
theorem dX6_goRounds_32 : decode cX6_goRounds 32 = .ok (.if_icmp .ge 24, 3) := by decide +kernel
theorem dX6_goRounds_35 : decode cX6_goRounds 35 = .ok (.aload_n 0, 1) := by decide +kernel
theorem dX6_goRounds_36 : decode cX6_goRounds 36 = .ok (.iload 5, 2) := by decide +kernel
theorem dX6_goRounds_38 : decode cX6_goRounds 38 = .ok (.invokevirtual 55, 3) := by decide +kernel
theorem dX6_goRounds_41 : decode cX6_goRounds 41 = .ok (.ifCond .eq 9, 3) := by decide +kernel
theorem dX6_goRounds_44 : decode cX6_goRounds 44 = .ok (.aload_n 0, 1) := by decide +kernel
theorem dX6_goRounds_45 : decode cX6_goRounds 45 = .ok (.iload 5, 2) := by decide +kernel
theorem dX6_goRounds_47 : decode cX6_goRounds 47 = .ok (.invokevirtual 59, 3) := by decide +kernel
theorem dX6_goRounds_50 : decode cX6_goRounds 50 = .ok (.iinc 5 1, 3) := by decide +kernel
theorem dX6_goRounds_53 : decode cX6_goRounds 53 = .ok (.goto (-30), 3) := by decide +kernel
theorem dX6_goRounds_56 : decode cX6_goRounds 56 = .ok (.iconst 0, 1) := by decide +kernel
theorem dX6_goRounds_57 : decode cX6_goRounds 57 = .ok (.istore 5, 2) := by decide +kernel
theorem dX6_goRounds_59 : decode cX6_goRounds 59 = .ok (.iload 5, 2) := by decide +kernel
theorem dX6_goRounds_61 : decode cX6_goRounds 61 = .ok (.iconst 3, 1) := by decide +kernel
theorem dX6_goRounds_62 : decode cX6_goRounds 62 = .ok (.if_icmp .ge 32, 3) := by decide +kernel
theorem dX6_goRounds_65 : decode cX6_goRounds 65 = .ok (.aload_n 0, 1) := by decide +kernel
theorem dX6_goRounds_66 : decode cX6_goRounds 66 = .ok (.getfield 23, 3) := by decide +kernel
theorem dX6_goRounds_69 : decode cX6_goRounds 69 = .ok (.getfield 63, 3) := by decide +kernel
theorem dX6_goRounds_72 : decode cX6_goRounds 72 = .ok (.ifCond .le 22, 3) := by decide +kernel
theorem dX6_goRounds_75 : decode cX6_goRounds 75 = .ok (.aload_n 0, 1) := by decide +kernel
theorem dX6_goRounds_76 : decode cX6_goRounds 76 = .ok (.getfield 23, 3) := by decide +kernel
theorem dX6_goRounds_79 : decode cX6_goRounds 79 = .ok (.aload_n 0, 1) := by decide +kernel
theorem dX6_goRounds_80 : decode cX6_goRounds 80 = .ok (.iload_n 2, 1) := by decide +kernel
theorem dX6_goRounds_81 : decode cX6_goRounds 81 = .ok (.invokevirtual 66, 3) := by decide +kernel
theorem dX6_goRounds_84 : decode cX6_goRounds 84 = .ok (.invokevirtual 70, 3) := by decide +kernel
theorem dX6_goRounds_87 : decode cX6_goRounds 87 = .ok (.pop, 1) := by decide +kernel
theorem dX6_goRounds_88 : decode cX6_goRounds 88 = .ok (.iinc 5 1, 3) := by decide +kernel
theorem dX6_goRounds_91 : decode cX6_goRounds 91 = .ok (.goto (-32), 3) := by decide +kernel
theorem dX6_goRounds_94 : decode cX6_goRounds 94 = .ok (.aload_n 0, 1) := by decide +kernel
theorem dX6_goRounds_95 : decode cX6_goRounds 95 = .ok (.getfield 23, 3) := by decide +kernel
theorem dX6_goRounds_98 : decode cX6_goRounds 98 = .ok (.invokevirtual 73, 3) := by decide +kernel
theorem dX6_goRounds_101 : decode cX6_goRounds 101 = .ok (.iinc 4 1, 3) := by decide +kernel
theorem dX6_goRounds_104 : decode cX6_goRounds 104 = .ok (.goto (-90), 3) := by decide +kernel
theorem dX6_goRounds_107 : decode cX6_goRounds 107 = .ok (.aload_n 0, 1) := by decide +kernel
theorem dX6_goRounds_108 : decode cX6_goRounds 108 = .ok (.getfield 12, 3) := by decide +kernel
theorem dX6_goRounds_111 : decode cX6_goRounds 111 = .ok (.getfield 43, 3) := by decide +kernel
theorem dX6_goRounds_114 : decode cX6_goRounds 114 = .ok (.invokestatic 47, 3) := by decide +kernel
theorem dX6_goRounds_117 : decode cX6_goRounds 117 = .ok (.iload_n 3, 1) := by decide +kernel
theorem dX6_goRounds_118 : decode cX6_goRounds 118 = .ok (.isub, 1) := by decide +kernel
theorem dX6_goRounds_119 : decode cX6_goRounds 119 = .ok (.ireturn, 1) := by decide +kernel
def xX6_goRounds_94 (k14 : Int32 → Int32 → Int32 → Int32 → j_M → Option (Int32 × j_M)) (t : Nat) (l1 : Int32) (l2 : Int32) (l3 : Int32) (l4 : Int32) (M : j_M) : Option (Int32 × j_M) := obv (xX1_tickOnce (t + 1) M) fun M1 => k14 l1 l2 l3 (l4 + (nI 1)) M1
set_option maxRecDepth 20000 in
set_option maxHeartbeats 2000000 in
theorem tX6_goRounds_94 (k14 : Int32 → Int32 → Int32 → Int32 → j_M → Option (Int32 × j_M)) (t : Nat) (hk14 : ∀ (l1 : Int32) (l2 : Int32) (l3 : Int32) (l4 : Int32) (M : j_M), J (ρ := Int32 × j_M) yX6_goRounds cX6_goRounds 6 (some .int) 5 138 j_ei 14 [(0, .inr (12, 0, t)), (1, .inl (l1)), (2, .inl (l2)), (3, .inl (l3)), (4, .inl (l4))] [] M (k14 l1 l2 l3 l4 M)) (l1 : Int32) (l2 : Int32) (l3 : Int32) (l4 : Int32) (M : j_M) : J (ρ := Int32 × j_M) yX6_goRounds cX6_goRounds 6 (some .int) 5 138 j_ei 94 [(0, .inr (12, 0, t)), (1, .inl (l1)), (2, .inl (l2)), (3, .inl (l3)), (4, .inl (l4))] [] M (xX6_goRounds_94 k14 t l1 l2 l3 l4 M) := by
  unfold xX6_goRounds_94
  refine K_aload_n (q := 95) 0 dX6_goRounds_94 rfl rfl rfl ?_
  refine K_getR (q := 98) (ci := 2) (a2 := t + 1) 1 dX6_goRounds_95 fRX6_23 rfl rfl (by decide) rfl rfl ?_
  refine K_cvv (q := 101) [] dX6_goRounds_98 cb_X1_tickOnce cvRX6_73 rc_0 (show (10 : Nat) ≠ 0 by decide) rfl (Nat.le_of_ble_eq_true rfl) ⟨by decide, by decide⟩ (Nat.le_of_ble_eq_true rfl) rfl (tX1_tickOnce (t + 1) M) rfl (fun M1 => ?_)
  refine K_iinc (q := 104) (v := l4 + (nI 1)) (ll' := [(4, .inl (l4 + (nI 1))), (0, .inr (12, 0, t)), (1, .inl (l1)), (2, .inl (l2)), (3, .inl (l3))]) 4 dX6_goRounds_101 rfl rfl (by decide) rfl rfl ?_
  refine J_goto (tgt := 14) dX6_goRounds_104 rfl ?_
  exact J_sub [1, 2, 3, 4, 0] (hk14 l1 l2 l3 (l4 + (nI 1)) M1) rfl
def xX6_goRounds_59 (k14 : Int32 → Int32 → Int32 → Int32 → j_M → Option (Int32 × j_M)) (t : Nat) : Nat → Int32 → Int32 → Int32 → Int32 → Int32 → j_M → Option (Int32 × j_M)
  | 0, _, _, _, _, _, _ => none
  | n + 1, l1, l2, l3, l4, l5, M => (if (nI 3) ≤ l5 then xX6_goRounds_94 k14 t l1 l2 l3 l4 M else oli (M (t + 1) 8) fun v1 => (if v1 ≤ (0 : Int32) then xX6_goRounds_94 k14 t l1 l2 l3 l4 M else obi (xX6_choose t l2 M) fun v3 M2 => obi (xX1_deliverAt (t + 1) v3 M2) fun v5 M4 => xX6_goRounds_59 k14 t n l1 l2 l3 l4 (l5 + (nI 1)) M4))
set_option maxRecDepth 20000 in
set_option maxHeartbeats 2000000 in
theorem tX6_goRounds_59 (k14 : Int32 → Int32 → Int32 → Int32 → j_M → Option (Int32 × j_M)) (t : Nat) (hk14 : ∀ (l1 : Int32) (l2 : Int32) (l3 : Int32) (l4 : Int32) (M : j_M), J (ρ := Int32 × j_M) yX6_goRounds cX6_goRounds 6 (some .int) 5 138 j_ei 14 [(0, .inr (12, 0, t)), (1, .inl (l1)), (2, .inl (l2)), (3, .inl (l3)), (4, .inl (l4))] [] M (k14 l1 l2 l3 l4 M)) : ∀ (n : Nat) (l1 : Int32) (l2 : Int32) (l3 : Int32) (l4 : Int32) (l5 : Int32) (M : j_M), J (ρ := Int32 × j_M) yX6_goRounds cX6_goRounds 6 (some .int) 5 138 j_ei 59 [(0, .inr (12, 0, t)), (1, .inl (l1)), (2, .inl (l2)), (3, .inl (l3)), (4, .inl (l4)), (5, .inl (l5))] [] M (xX6_goRounds_59 k14 t n l1 l2 l3 l4 l5 M) := by
  intro n
  induction n with
  | zero => intros; exact J_none
  | succ n ih =>
    intro l1 l2 l3 l4 l5 M
    rw [xX6_goRounds_59.eq_2]
    refine K_iload (q := 61) 5 dX6_goRounds_59 rfl rfl ?_
    refine K_iconst (q := 62) (v := nI 3) dX6_goRounds_61 rfl rfl ?_
    refine K_icmp_ge (q := 65) (tgt := 94) dX6_goRounds_62 rfl ?_ rfl ?_
    · exact J_sub [0, 1, 2, 3, 4] (tX6_goRounds_94 k14 t hk14 l1 l2 l3 l4 M) rfl
    · refine K_aload_n (q := 66) 0 dX6_goRounds_65 rfl rfl rfl ?_
      refine K_getR (q := 69) (ci := 2) (a2 := t + 1) 1 dX6_goRounds_66 fRX6_23 rfl rfl (by decide) rfl rfl ?_
      refine K_getI (q := 72) (ci := 0) 8 dX6_goRounds_69 fRX6_63 rfl rfl rfl (fun v1 => ?_)
      refine K_if_le (q := 75) (tgt := 94) dX6_goRounds_72 rfl ?_ rfl ?_
      · exact J_sub [0, 1, 2, 3, 4] (tX6_goRounds_94 k14 t hk14 l1 l2 l3 l4 M) rfl
      · refine K_aload_n (q := 76) 0 dX6_goRounds_75 rfl rfl rfl ?_
        refine K_getR (q := 79) (ci := 2) (a2 := t + 1) 1 dX6_goRounds_76 fRX6_23 rfl rfl (by decide) rfl rfl ?_
        refine K_aload_n (q := 80) 0 dX6_goRounds_79 rfl rfl rfl ?_
        refine K_iload_n (q := 81) 2 dX6_goRounds_80 rfl rfl rfl ?_
        refine K_cvi (q := 84) [.inl (l2)] dX6_goRounds_81 cb_X6_choose cvRX6_66 rc_2 (show (12 : Nat) ≠ 0 by decide) rfl (Nat.le_of_ble_eq_true rfl) ⟨by decide, by decide⟩ (Nat.le_of_ble_eq_true rfl) rfl (tX6_choose t l2 M) rfl (fun v3 M2 => ?_)
        refine K_cvi (q := 87) [.inl (v3)] dX6_goRounds_84 cb_X1_deliverAt cvRX6_70 rc_0 (show (10 : Nat) ≠ 0 by decide) rfl (Nat.le_of_ble_eq_true rfl) ⟨by decide, by decide⟩ (Nat.le_of_ble_eq_true rfl) rfl (tX1_deliverAt (t + 1) v3 M2) rfl (fun v5 M4 => ?_)
        refine K_pop (q := 88) dX6_goRounds_87 rfl ?_
        refine K_iinc (q := 91) (v := l5 + (nI 1)) (ll' := [(5, .inl (l5 + (nI 1))), (0, .inr (12, 0, t)), (1, .inl (l1)), (2, .inl (l2)), (3, .inl (l3)), (4, .inl (l4))]) 5 dX6_goRounds_88 rfl rfl (by decide) rfl rfl ?_
        refine J_goto (tgt := 59) dX6_goRounds_91 rfl ?_
        exact J_sub [1, 2, 3, 4, 5, 0] (ih l1 l2 l3 l4 (l5 + (nI 1)) M4) rfl
def xX6_goRounds_23 (k14 : Int32 → Int32 → Int32 → Int32 → j_M → Option (Int32 × j_M)) (t : Nat) : Nat → Int32 → Int32 → Int32 → Int32 → Int32 → j_M → Option (Int32 × j_M)
  | 0, _, _, _, _, _, _ => none
  | n + 1, l1, l2, l3, l4, l5, M => oli (M (t + 1) 9) fun v1 => (if v1 ≤ l5 then xX6_goRounds_59 k14 t fu l1 l2 l3 l4 (nI 0) M else obi (xX6_isReady t l5 M) fun v3 M2 => (if v3 = (0 : Int32) then xX6_goRounds_23 k14 t n l1 l2 l3 l4 (l5 + (nI 1)) M2 else obv (xX6_doNextAct t l5 M2) fun M4 => xX6_goRounds_23 k14 t n l1 l2 l3 l4 (l5 + (nI 1)) M4))
set_option maxRecDepth 20000 in
set_option maxHeartbeats 2000000 in
theorem tX6_goRounds_23 (k14 : Int32 → Int32 → Int32 → Int32 → j_M → Option (Int32 × j_M)) (t : Nat) (hk14 : ∀ (l1 : Int32) (l2 : Int32) (l3 : Int32) (l4 : Int32) (M : j_M), J (ρ := Int32 × j_M) yX6_goRounds cX6_goRounds 6 (some .int) 5 138 j_ei 14 [(0, .inr (12, 0, t)), (1, .inl (l1)), (2, .inl (l2)), (3, .inl (l3)), (4, .inl (l4))] [] M (k14 l1 l2 l3 l4 M)) : ∀ (n : Nat) (l1 : Int32) (l2 : Int32) (l3 : Int32) (l4 : Int32) (l5 : Int32) (M : j_M), J (ρ := Int32 × j_M) yX6_goRounds cX6_goRounds 6 (some .int) 5 138 j_ei 23 [(0, .inr (12, 0, t)), (1, .inl (l1)), (2, .inl (l2)), (3, .inl (l3)), (4, .inl (l4)), (5, .inl (l5))] [] M (xX6_goRounds_23 k14 t n l1 l2 l3 l4 l5 M) := by
  intro n
  induction n with
  | zero => intros; exact J_none
  | succ n ih =>
    intro l1 l2 l3 l4 l5 M
    rw [xX6_goRounds_23.eq_2]
    refine K_iload (q := 25) 5 dX6_goRounds_23 rfl rfl ?_
    refine K_aload_n (q := 26) 0 dX6_goRounds_25 rfl rfl rfl ?_
    refine K_getR (q := 29) (ci := 2) (a2 := t + 1) 1 dX6_goRounds_26 fRX6_23 rfl rfl (by decide) rfl rfl ?_
    refine K_getI (q := 32) (ci := 0) 9 dX6_goRounds_29 fRX6_51 rfl rfl rfl (fun v1 => ?_)
    refine K_icmp_ge (q := 35) (tgt := 56) dX6_goRounds_32 rfl ?_ rfl ?_
    · refine K_iconst (q := 57) (v := nI 0) dX6_goRounds_56 rfl rfl ?_
      refine K_istore (q := 59) (ll' := [(5, .inl ((nI 0))), (0, .inr (12, 0, t)), (1, .inl (l1)), (2, .inl (l2)), (3, .inl (l3)), (4, .inl (l4))]) dX6_goRounds_57 (by decide) rfl rfl ?_
      exact J_sub [1, 2, 3, 4, 5, 0] (tX6_goRounds_59 k14 t hk14 fu l1 l2 l3 l4 (nI 0) M) rfl
    · refine K_aload_n (q := 36) 0 dX6_goRounds_35 rfl rfl rfl ?_
      refine K_iload (q := 38) 5 dX6_goRounds_36 rfl rfl ?_
      refine K_cvi (q := 41) [.inl (l5)] dX6_goRounds_38 cb_X6_isReady cvRX6_55 rc_2 (show (12 : Nat) ≠ 0 by decide) rfl (Nat.le_of_ble_eq_true rfl) ⟨by decide, by decide⟩ (Nat.le_of_ble_eq_true rfl) rfl (tX6_isReady t l5 M) rfl (fun v3 M2 => ?_)
      refine K_if_eq (q := 44) (tgt := 50) dX6_goRounds_41 rfl ?_ rfl ?_
      · refine K_iinc (q := 53) (v := l5 + (nI 1)) (ll' := [(5, .inl (l5 + (nI 1))), (0, .inr (12, 0, t)), (1, .inl (l1)), (2, .inl (l2)), (3, .inl (l3)), (4, .inl (l4))]) 5 dX6_goRounds_50 rfl rfl (by decide) rfl rfl ?_
        refine J_goto (tgt := 23) dX6_goRounds_53 rfl ?_
        exact J_sub [1, 2, 3, 4, 5, 0] (ih l1 l2 l3 l4 (l5 + (nI 1)) M2) rfl
      · refine K_aload_n (q := 45) 0 dX6_goRounds_44 rfl rfl rfl ?_
        refine K_iload (q := 47) 5 dX6_goRounds_45 rfl rfl ?_
        refine K_cvv (q := 50) [.inl (l5)] dX6_goRounds_47 cb_X6_doNextAct cvRX6_59 rc_2 (show (12 : Nat) ≠ 0 by decide) rfl (Nat.le_of_ble_eq_true rfl) ⟨by decide, by decide⟩ (Nat.le_of_ble_eq_true rfl) rfl (tX6_doNextAct t l5 M2) rfl (fun M4 => ?_)
        refine K_iinc (q := 53) (v := l5 + (nI 1)) (ll' := [(5, .inl (l5 + (nI 1))), (0, .inr (12, 0, t)), (1, .inl (l1)), (2, .inl (l2)), (3, .inl (l3)), (4, .inl (l4))]) 5 dX6_goRounds_50 rfl rfl (by decide) rfl rfl ?_
        refine J_goto (tgt := 23) dX6_goRounds_53 rfl ?_
        exact J_sub [1, 2, 3, 4, 5, 0] (ih l1 l2 l3 l4 (l5 + (nI 1)) M4) rfl
def xX6_goRounds_14  (t : Nat) : Nat → Int32 → Int32 → Int32 → Int32 → j_M → Option (Int32 × j_M)
  | 0, _, _, _, _, _ => none
  | n + 1, l1, l2, l3, l4, M => (if l1 ≤ l4 then obi (xX5_sum 6 (t + 17) M) fun v2 M1 => some (v2 - l3, M1) else xX6_goRounds_23 (xX6_goRounds_14 t n) t fu l1 l2 l3 l4 (nI 0) M)
set_option maxRecDepth 20000 in
set_option maxHeartbeats 2000000 in
theorem tX6_goRounds_14  (t : Nat)  : ∀ (n : Nat) (l1 : Int32) (l2 : Int32) (l3 : Int32) (l4 : Int32) (M : j_M), J (ρ := Int32 × j_M) yX6_goRounds cX6_goRounds 6 (some .int) 5 138 j_ei 14 [(0, .inr (12, 0, t)), (1, .inl (l1)), (2, .inl (l2)), (3, .inl (l3)), (4, .inl (l4))] [] M (xX6_goRounds_14 t n l1 l2 l3 l4 M) := by
  intro n
  induction n with
  | zero => intros; exact J_none
  | succ n ih =>
    intro l1 l2 l3 l4 M
    rw [xX6_goRounds_14.eq_2]
    refine K_iload (q := 16) 4 dX6_goRounds_14 rfl rfl ?_
    refine K_iload_n (q := 17) 1 dX6_goRounds_16 rfl rfl rfl ?_
    refine K_icmp_ge (q := 20) (tgt := 107) dX6_goRounds_17 rfl ?_ rfl ?_
    · refine K_aload_n (q := 108) 0 dX6_goRounds_107 rfl rfl rfl ?_
      refine K_getR (q := 111) (ci := 2) (a2 := t + 9) 0 dX6_goRounds_108 fRX6_12 rfl rfl (by decide) rfl rfl ?_
      refine K_getR (q := 114) (ci := 1) (a2 := t + 17) 7 dX6_goRounds_111 fRX6_43 rfl rfl (by decide) rfl rfl ?_
      refine K_csi (q := 117) [.inr (1, 6, t + 17)] dX6_goRounds_114 cb_X5_sum cvRX6_47 rfl (Nat.le_of_ble_eq_true rfl) ⟨by decide, by decide⟩ (Nat.le_of_ble_eq_true rfl) rfl (tX5_sum 6 (t + 17) M) rfl (fun v2 M1 => ?_)
      refine K_iload_n (q := 118) 3 dX6_goRounds_117 rfl rfl rfl ?_
      refine K_isub (q := 119) dX6_goRounds_118 rfl ?_
      exact J_iret dX6_goRounds_119
    · refine K_iconst (q := 21) (v := nI 0) dX6_goRounds_20 rfl rfl ?_
      refine K_istore (q := 23) (ll' := [(5, .inl ((nI 0))), (0, .inr (12, 0, t)), (1, .inl (l1)), (2, .inl (l2)), (3, .inl (l3)), (4, .inl (l4))]) dX6_goRounds_21 (by decide) rfl rfl ?_
      exact J_sub [1, 2, 3, 4, 5, 0] (tX6_goRounds_23 (xX6_goRounds_14 t n) t ih fu l1 l2 l3 l4 (nI 0) M) rfl
def xX6_goRounds (t : Nat) (l1 : Int32) (l2 : Int32) (M : j_M) : Option (Int32 × j_M) := obi (xX5_sum 6 (t + 17) M) fun v2 M1 => xX6_goRounds_14 t fu l1 l2 v2 (nI 0) M1
set_option maxRecDepth 20000 in
set_option maxHeartbeats 2000000 in
theorem tX6_goRounds (t : Nat) (l1 : Int32) (l2 : Int32) (M : j_M) : J (ρ := Int32 × j_M) yX6_goRounds cX6_goRounds 6 (some .int) 5 138 j_ei 0 [(0, .inr (12, 0, t)), (1, .inl (l1)), (2, .inl (l2))] [] M (xX6_goRounds t l1 l2 M) := by
  unfold xX6_goRounds
  refine K_aload_n (q := 1) 0 dX6_goRounds_0 rfl rfl rfl ?_
  refine K_getR (q := 4) (ci := 2) (a2 := t + 9) 0 dX6_goRounds_1 fRX6_12 rfl rfl (by decide) rfl rfl ?_
  refine K_getR (q := 7) (ci := 1) (a2 := t + 17) 7 dX6_goRounds_4 fRX6_43 rfl rfl (by decide) rfl rfl ?_
  refine K_csi (q := 10) [.inr (1, 6, t + 17)] dX6_goRounds_7 cb_X5_sum cvRX6_47 rfl (Nat.le_of_ble_eq_true rfl) ⟨by decide, by decide⟩ (Nat.le_of_ble_eq_true rfl) rfl (tX5_sum 6 (t + 17) M) rfl (fun v2 M1 => ?_)
  refine K_istore_n (q := 11) (ll' := [(3, .inl (v2)), (0, .inr (12, 0, t)), (1, .inl (l1)), (2, .inl (l2))]) dX6_goRounds_10 rfl (by decide) rfl rfl ?_
  refine K_iconst (q := 12) (v := nI 0) dX6_goRounds_11 rfl rfl ?_
  refine K_istore (q := 14) (ll' := [(4, .inl ((nI 0))), (3, .inl (v2)), (0, .inr (12, 0, t)), (1, .inl (l1)), (2, .inl (l2))]) dX6_goRounds_12 (by decide) rfl rfl ?_
  exact J_sub [2, 3, 4, 1, 0] (tX6_goRounds_14 t fu l1 l2 v2 (nI 0) M1) rfl
theorem dX6_become_0 : decode cX6_become 0 = .ok (.aload_n 0, 1) := by decide +kernel
theorem dX6_become_1 : decode cX6_become 1 = .ok (.getfield 12, 3) := by decide +kernel
theorem dX6_become_4 : decode cX6_become 4 = .ok (.aload_n 1, 1) := by decide +kernel
theorem dX6_become_5 : decode cX6_become 5 = .ok (.getfield 12, 3) := by decide +kernel
theorem dX6_become_8 : decode cX6_become 8 = .ok (.invokevirtual 34, 3) := by decide +kernel
theorem dX6_become_11 : decode cX6_become 11 = .ok (.aload_n 0, 1) := by decide +kernel
theorem dX6_become_12 : decode cX6_become 12 = .ok (.getfield 23, 3) := by decide +kernel
theorem dX6_become_15 : decode cX6_become 15 = .ok (.aload_n 1, 1) := by decide +kernel
theorem dX6_become_16 : decode cX6_become 16 = .ok (.getfield 23, 3) := by decide +kernel
theorem dX6_become_19 : decode cX6_become 19 = .ok (.invokevirtual 37, 3) := by decide +kernel
theorem dX6_become_22 : decode cX6_become 22 = .ok (.aload_n 0, 1) := by decide +kernel
theorem dX6_become_23 : decode cX6_become 23 = .ok (.getfield 30, 3) := by decide +kernel
theorem dX6_become_26 : decode cX6_become 26 = .ok (.aload_n 1, 1) := by decide +kernel
theorem dX6_become_27 : decode cX6_become 27 = .ok (.getfield 30, 3) := by decide +kernel
theorem dX6_become_30 : decode cX6_become 30 = .ok (.invokevirtual 40, 3) := by decide +kernel
theorem dX6_become_33 : decode cX6_become 33 = .ok (.return_, 1) := by decide +kernel
def xX6_become (t : Nat) (u1 : Nat)  (M : j_M) : Option (j_M) := obv (xX5_become (t + 9) (u1 + 9) M) fun M1 => obv (xX1_become (t + 1) (u1 + 1) M1) fun M2 => obv (xX9_become (t + 21) (u1 + 21) M2) fun M3 => some M3
set_option maxRecDepth 20000 in
set_option maxHeartbeats 2000000 in
theorem tX6_become (t : Nat) (u1 : Nat)  (M : j_M) : J (ρ := j_M) yX6_become cX6_become 2 none 2 51 j_ev 0 [(0, .inr (12, 0, t)), (1, .inr (12, 0, u1))] [] M (xX6_become t u1  M) := by
  unfold xX6_become
  refine K_aload_n (q := 1) 0 dX6_become_0 rfl rfl rfl ?_
  refine K_getR (q := 4) (ci := 2) (a2 := t + 9) 0 dX6_become_1 fRX6_12 rfl rfl (by decide) rfl rfl ?_
  refine K_aload_n (q := 5) 1 dX6_become_4 rfl rfl rfl ?_
  refine K_getR (q := 8) (ci := 2) (a2 := u1 + 9) 0 dX6_become_5 fRX6_12 rfl rfl (by decide) rfl rfl ?_
  refine K_cvv (q := 11) [.inr (11, 0, u1 + 9)] dX6_become_8 cb_X5_become cvRX6_34 rc_1 (show (11 : Nat) ≠ 0 by decide) rfl (Nat.le_of_ble_eq_true rfl) ⟨by decide, by decide⟩ (Nat.le_of_ble_eq_true rfl) rfl (tX5_become (t + 9) (u1 + 9) M) rfl (fun M1 => ?_)
  refine K_aload_n (q := 12) 0 dX6_become_11 rfl rfl rfl ?_
  refine K_getR (q := 15) (ci := 2) (a2 := t + 1) 1 dX6_become_12 fRX6_23 rfl rfl (by decide) rfl rfl ?_
  refine K_aload_n (q := 16) 1 dX6_become_15 rfl rfl rfl ?_
  refine K_getR (q := 19) (ci := 2) (a2 := u1 + 1) 1 dX6_become_16 fRX6_23 rfl rfl (by decide) rfl rfl ?_
  refine K_cvv (q := 22) [.inr (10, 0, u1 + 1)] dX6_become_19 cb_X1_become cvRX6_37 rc_0 (show (10 : Nat) ≠ 0 by decide) rfl (Nat.le_of_ble_eq_true rfl) ⟨by decide, by decide⟩ (Nat.le_of_ble_eq_true rfl) rfl (tX1_become (t + 1) (u1 + 1) M1) rfl (fun M2 => ?_)
  refine K_aload_n (q := 23) 0 dX6_become_22 rfl rfl rfl ?_
  refine K_getR (q := 26) (ci := 2) (a2 := t + 21) 2 dX6_become_23 fRX6_30 rfl rfl (by decide) rfl rfl ?_
  refine K_aload_n (q := 27) 1 dX6_become_26 rfl rfl rfl ?_
  refine K_getR (q := 30) (ci := 2) (a2 := u1 + 21) 2 dX6_become_27 fRX6_30 rfl rfl (by decide) rfl rfl ?_
  refine K_cvv (q := 33) [.inr (14, 0, u1 + 21)] dX6_become_30 cb_X9_become cvRX6_40 rc_4 (show (14 : Nat) ≠ 0 by decide) rfl (Nat.le_of_ble_eq_true rfl) ⟨by decide, by decide⟩ (Nat.le_of_ble_eq_true rfl) rfl (tX9_become (t + 21) (u1 + 21) M2) rfl (fun M3 => ?_)
  exact J_vret dX6_become_33
theorem dX6_begin_0 : decode cX6_begin 0 = .ok (.aload_n 0, 1) := by decide +kernel
theorem dX6_begin_1 : decode cX6_begin 1 = .ok (.getfield 23, 3) := by decide +kernel
theorem dX6_begin_4 : decode cX6_begin 4 = .ok (.iload_n 1, 1) := by decide +kernel
theorem dX6_begin_5 : decode cX6_begin 5 = .ok (.iload_n 2, 1) := by decide +kernel
theorem dX6_begin_6 : decode cX6_begin 6 = .ok (.iload 4, 2) := by decide +kernel
theorem dX6_begin_8 : decode cX6_begin 8 = .ok (.invokevirtual 149, 3) := by decide +kernel
theorem dX6_begin_11 : decode cX6_begin 11 = .ok (.ifCond .ne 5, 3) := by decide +kernel
theorem dX6_begin_14 : decode cX6_begin 14 = .ok (.iconst 0, 1) := by decide +kernel
theorem dX6_begin_15 : decode cX6_begin 15 = .ok (.ireturn, 1) := by decide +kernel
theorem dX6_begin_16 : decode cX6_begin 16 = .ok (.aload_n 0, 1) := by decide +kernel
theorem dX6_begin_17 : decode cX6_begin 17 = .ok (.getfield 23, 3) := by decide +kernel
theorem dX6_begin_20 : decode cX6_begin 20 = .ok (.iload_n 1, 1) := by decide +kernel
theorem dX6_begin_21 : decode cX6_begin 21 = .ok (.iload_n 2, 1) := by decide +kernel
theorem dX6_begin_22 : decode cX6_begin 22 = .ok (.iload_n 3, 1) := by decide +kernel
theorem dX6_begin_23 : decode cX6_begin 23 = .ok (.iload 4, 2) := by decide +kernel
theorem dX6_begin_25 : decode cX6_begin 25 = .ok (.invokevirtual 108, 3) := by decide +kernel
theorem dX6_begin_28 : decode cX6_begin 28 = .ok (.pop, 1) := by decide +kernel
theorem dX6_begin_29 : decode cX6_begin 29 = .ok (.iconst 1, 1) := by decide +kernel
theorem dX6_begin_30 : decode cX6_begin 30 = .ok (.ireturn, 1) := by decide +kernel
def xX6_begin (t : Nat) (l1 : Int32) (l2 : Int32) (l3 : Int32) (l4 : Int32) (M : j_M) : Option (Int32 × j_M) := obi (xX1_mayBegin (t + 1) l1 l2 l4 M) fun v2 M1 => (if v2 = (0 : Int32) then some ((nI 0), M1) else obi (xX1_access (t + 1) l1 l2 l3 l4 M1) fun v4 M3 => some ((nI 1), M3))
set_option maxRecDepth 20000 in
set_option maxHeartbeats 2000000 in
theorem tX6_begin (t : Nat) (l1 : Int32) (l2 : Int32) (l3 : Int32) (l4 : Int32) (M : j_M) : J (ρ := Int32 × j_M) yX6_begin cX6_begin 5 (some .boolean) 4 93 j_ei 0 [(0, .inr (12, 0, t)), (1, .inl (l1)), (2, .inl (l2)), (3, .inl (l3)), (4, .inl (l4))] [] M (xX6_begin t l1 l2 l3 l4 M) := by
  unfold xX6_begin
  refine K_aload_n (q := 1) 0 dX6_begin_0 rfl rfl rfl ?_
  refine K_getR (q := 4) (ci := 2) (a2 := t + 1) 1 dX6_begin_1 fRX6_23 rfl rfl (by decide) rfl rfl ?_
  refine K_iload_n (q := 5) 1 dX6_begin_4 rfl rfl rfl ?_
  refine K_iload_n (q := 6) 2 dX6_begin_5 rfl rfl rfl ?_
  refine K_iload (q := 8) 4 dX6_begin_6 rfl rfl ?_
  refine K_cvi (q := 11) [.inl (l1), .inl (l2), .inl (l4)] dX6_begin_8 cb_X1_mayBegin cvRX6_149 rc_0 (show (10 : Nat) ≠ 0 by decide) rfl (Nat.le_of_ble_eq_true rfl) ⟨by decide, by decide⟩ (Nat.le_of_ble_eq_true rfl) rfl (tX1_mayBegin (t + 1) l1 l2 l4 M) rfl (fun v2 M1 => ?_)
  refine K_if_ne (q := 14) (tgt := 16) dX6_begin_11 rfl ?_ rfl ?_
  · refine K_aload_n (q := 17) 0 dX6_begin_16 rfl rfl rfl ?_
    refine K_getR (q := 20) (ci := 2) (a2 := t + 1) 1 dX6_begin_17 fRX6_23 rfl rfl (by decide) rfl rfl ?_
    refine K_iload_n (q := 21) 1 dX6_begin_20 rfl rfl rfl ?_
    refine K_iload_n (q := 22) 2 dX6_begin_21 rfl rfl rfl ?_
    refine K_iload_n (q := 23) 3 dX6_begin_22 rfl rfl rfl ?_
    refine K_iload (q := 25) 4 dX6_begin_23 rfl rfl ?_
    refine K_cvi (q := 28) [.inl (l1), .inl (l2), .inl (l3), .inl (l4)] dX6_begin_25 cb_X1_access cvRX6_108 rc_0 (show (10 : Nat) ≠ 0 by decide) rfl (Nat.le_of_ble_eq_true rfl) ⟨by decide, by decide⟩ (Nat.le_of_ble_eq_true rfl) rfl (tX1_access (t + 1) l1 l2 l3 l4 M1) rfl (fun v4 M3 => ?_)
    refine K_pop (q := 29) dX6_begin_28 rfl ?_
    refine K_iconst (q := 30) (v := nI 1) dX6_begin_29 rfl rfl ?_
    exact J_zret dX6_begin_30 (by decide)
  · refine K_iconst (q := 15) (v := nI 0) dX6_begin_14 rfl rfl ?_
    exact J_zret dX6_begin_15 (by decide)
theorem dX6_runLine_0 : decode cX6_runLine 0 = .ok (.aload_n 0, 1) := by decide +kernel
theorem dX6_runLine_1 : decode cX6_runLine 1 = .ok (.getfield 30, 3) := by decide +kernel
theorem dX6_runLine_4 : decode cX6_runLine 4 = .ok (.getfield 112, 3) := by decide +kernel
theorem dX6_runLine_7 : decode cX6_runLine 7 = .ok (.aload_n 0, 1) := by decide +kernel
theorem dX6_runLine_8 : decode cX6_runLine 8 = .ok (.getfield 30, 3) := by decide +kernel
theorem dX6_runLine_11 : decode cX6_runLine 11 = .ok (.getfield 115, 3) := by decide +kernel
theorem dX6_runLine_14 : decode cX6_runLine 14 = .ok (.iaload, 1) := by decide +kernel
theorem dX6_runLine_15 : decode cX6_runLine 15 = .ok (.istore_n 1, 1) := by decide +kernel
theorem dX6_runLine_16 : decode cX6_runLine 16 = .ok (.aload_n 0, 1) := by decide +kernel
theorem dX6_runLine_17 : decode cX6_runLine 17 = .ok (.getfield 30, 3) := by decide +kernel
theorem dX6_runLine_20 : decode cX6_runLine 20 = .ok (.dup, 1) := by decide +kernel
theorem dX6_runLine_21 : decode cX6_runLine 21 = .ok (.getfield 115, 3) := by decide +kernel
theorem dX6_runLine_24 : decode cX6_runLine 24 = .ok (.iconst 1, 1) := by decide +kernel
theorem dX6_runLine_25 : decode cX6_runLine 25 = .ok (.iadd, 1) := by decide +kernel
theorem dX6_runLine_26 : decode cX6_runLine 26 = .ok (.putfield 115, 3) := by decide +kernel
theorem dX6_runLine_29 : decode cX6_runLine 29 = .ok (.iload_n 1, 1) := by decide +kernel
theorem dX6_runLine_30 : decode cX6_runLine 30 = .ok (.invokestatic 102, 3) := by decide +kernel
theorem dX6_runLine_33 : decode cX6_runLine 33 = .ok (.istore_n 2, 1) := by decide +kernel
theorem dX6_runLine_34 : decode cX6_runLine 34 = .ok (.iload_n 1, 1) := by decide +kernel
theorem dX6_runLine_35 : decode cX6_runLine 35 = .ok (.invokestatic 97, 3) := by decide +kernel
theorem dX6_runLine_38 : decode cX6_runLine 38 = .ok (.istore_n 3, 1) := by decide +kernel
theorem dX6_runLine_39 : decode cX6_runLine 39 = .ok (.iload_n 3, 1) := by decide +kernel
theorem dX6_runLine_40 : decode cX6_runLine 40 = .ok (.bipush 9, 2) := by decide +kernel
theorem dX6_runLine_42 : decode cX6_runLine 42 = .ok (.if_icmp .lt 22, 3) := by decide +kernel
theorem dX6_runLine_45 : decode cX6_runLine 45 = .ok (.iload_n 3, 1) := by decide +kernel
theorem dX6_runLine_46 : decode cX6_runLine 46 = .ok (.bipush 11, 2) := by decide +kernel
theorem dX6_runLine_48 : decode cX6_runLine 48 = .ok (.if_icmp .gt 16, 3) := by decide +kernel
theorem dX6_runLine_51 : decode cX6_runLine 51 = .ok (.aload_n 0, 1) := by decide +kernel
theorem dX6_runLine_52 : decode cX6_runLine 52 = .ok (.getfield 23, 3) := by decide +kernel
theorem dX6_runLine_55 : decode cX6_runLine 55 = .ok (.iload_n 2, 1) := by decide +kernel
theorem dX6_runLine_56 : decode cX6_runLine 56 = .ok (.invokevirtual 118, 3) := by decide +kernel
theorem dX6_runLine_59 : decode cX6_runLine 59 = .ok (.ifCond .ne 5, 3) := by decide +kernel
theorem dX6_runLine_62 : decode cX6_runLine 62 = .ok (.iconst 0, 1) := by decide +kernel
theorem dX6_runLine_63 : decode cX6_runLine 63 = .ok (.ireturn, 1) := by decide +kernel
theorem dX6_runLine_64 : decode cX6_runLine 64 = .ok (.iload_n 3, 1) := by decide +kernel
theorem dX6_runLine_65 : decode cX6_runLine 65 = .ok (.tableswitch 134 6 12 #[43, 56, 74, 92, 102, 113, 125], 43) := by decide +kernel
theorem dX6_runLine_108 : decode cX6_runLine 108 = .ok (.aload_n 0, 1) := by decide +kernel
theorem dX6_runLine_109 : decode cX6_runLine 109 = .ok (.getfield 23, 3) := by decide +kernel
theorem dX6_runLine_112 : decode cX6_runLine 112 = .ok (.iload_n 1, 1) := by decide +kernel
theorem dX6_runLine_113 : decode cX6_runLine 113 = .ok (.invokestatic 121, 3) := by decide +kernel
theorem dX6_runLine_116 : decode cX6_runLine 116 = .ok (.iload_n 2, 1) := by decide +kernel
theorem dX6_runLine_117 : decode cX6_runLine 117 = .ok (.invokevirtual 124, 3) := by decide +kernel
theorem dX6_runLine_120 : decode cX6_runLine 120 = .ok (.ireturn, 1) := by decide +kernel
theorem dX6_runLine_121 : decode cX6_runLine 121 = .ok (.aload_n 0, 1) := by decide +kernel
theorem dX6_runLine_122 : decode cX6_runLine 122 = .ok (.getfield 23, 3) := by decide +kernel
theorem dX6_runLine_125 : decode cX6_runLine 125 = .ok (.iload_n 2, 1) := by decide +kernel
theorem dX6_runLine_126 : decode cX6_runLine 126 = .ok (.iconst 0, 1) := by decide +kernel
theorem dX6_runLine_127 : decode cX6_runLine 127 = .ok (.invokevirtual 128, 3) := by decide +kernel
theorem dX6_runLine_130 : decode cX6_runLine 130 = .ok (.ifCond .le 7, 3) := by decide +kernel
theorem dX6_runLine_133 : decode cX6_runLine 133 = .ok (.iconst 1, 1) := by decide +kernel
theorem dX6_runLine_134 : decode cX6_runLine 134 = .ok (.goto 4, 3) := by decide +kernel
theorem dX6_runLine_137 : decode cX6_runLine 137 = .ok (.iconst 0, 1) := by decide +kernel
theorem dX6_runLine_138 : decode cX6_runLine 138 = .ok (.ireturn, 1) := by decide +kernel
theorem dX6_runLine_139 : decode cX6_runLine 139 = .ok (.aload_n 0, 1) := by decide +kernel
theorem dX6_runLine_140 : decode cX6_runLine 140 = .ok (.getfield 23, 3) := by decide +kernel
theorem dX6_runLine_143 : decode cX6_runLine 143 = .ok (.iload_n 2, 1) := by decide +kernel
theorem dX6_runLine_144 : decode cX6_runLine 144 = .ok (.iconst 1, 1) := by decide +kernel
theorem dX6_runLine_145 : decode cX6_runLine 145 = .ok (.invokevirtual 128, 3) := by decide +kernel
theorem dX6_runLine_148 : decode cX6_runLine 148 = .ok (.ifCond .le 7, 3) := by decide +kernel
theorem dX6_runLine_151 : decode cX6_runLine 151 = .ok (.iconst 1, 1) := by decide +kernel
theorem dX6_runLine_152 : decode cX6_runLine 152 = .ok (.goto 4, 3) := by decide +kernel
theorem dX6_runLine_155 : decode cX6_runLine 155 = .ok (.iconst 0, 1) := by decide +kernel
theorem dX6_runLine_156 : decode cX6_runLine 156 = .ok (.ireturn, 1) := by decide +kernel
theorem dX6_runLine_157 : decode cX6_runLine 157 = .ok (.aload_n 0, 1) := by decide +kernel
theorem dX6_runLine_158 : decode cX6_runLine 158 = .ok (.getfield 23, 3) := by decide +kernel
theorem dX6_runLine_161 : decode cX6_runLine 161 = .ok (.iload_n 2, 1) := by decide +kernel
theorem dX6_runLine_162 : decode cX6_runLine 162 = .ok (.invokevirtual 132, 3) := by decide +kernel
theorem dX6_runLine_165 : decode cX6_runLine 165 = .ok (.iconst 1, 1) := by decide +kernel
theorem dX6_runLine_166 : decode cX6_runLine 166 = .ok (.ireturn, 1) := by decide +kernel
theorem dX6_runLine_167 : decode cX6_runLine 167 = .ok (.aload_n 0, 1) := by decide +kernel
theorem dX6_runLine_168 : decode cX6_runLine 168 = .ok (.getfield 23, 3) := by decide +kernel
theorem dX6_runLine_171 : decode cX6_runLine 171 = .ok (.iload_n 2, 1) := by decide +kernel
theorem dX6_runLine_172 : decode cX6_runLine 172 = .ok (.invokevirtual 135, 3) := by decide +kernel
theorem dX6_runLine_175 : decode cX6_runLine 175 = .ok (.pop, 1) := by decide +kernel
theorem dX6_runLine_176 : decode cX6_runLine 176 = .ok (.iconst 1, 1) := by decide +kernel
theorem dX6_runLine_177 : decode cX6_runLine 177 = .ok (.ireturn, 1) := by decide +kernel
theorem dX6_runLine_178 : decode cX6_runLine 178 = .ok (.aload_n 0, 1) := by decide +kernel
theorem dX6_runLine_179 : decode cX6_runLine 179 = .ok (.iload_n 2, 1) := by decide +kernel
theorem dX6_runLine_180 : decode cX6_runLine 180 = .ok (.iload_n 1, 1) := by decide +kernel
theorem dX6_runLine_181 : decode cX6_runLine 181 = .ok (.invokestatic 105, 3) := by decide +kernel
theorem dX6_runLine_184 : decode cX6_runLine 184 = .ok (.invokevirtual 138, 3) := by decide +kernel
theorem dX6_runLine_187 : decode cX6_runLine 187 = .ok (.pop, 1) := by decide +kernel
theorem dX6_runLine_188 : decode cX6_runLine 188 = .ok (.iconst 1, 1) := by decide +kernel
theorem dX6_runLine_189 : decode cX6_runLine 189 = .ok (.ireturn, 1) := by decide +kernel
theorem dX6_runLine_190 : decode cX6_runLine 190 = .ok (.aload_n 0, 1) := by decide +kernel
theorem dX6_runLine_191 : decode cX6_runLine 191 = .ok (.getfield 23, 3) := by decide +kernel
theorem dX6_runLine_194 : decode cX6_runLine 194 = .ok (.iload_n 2, 1) := by decide +kernel
theorem dX6_runLine_195 : decode cX6_runLine 195 = .ok (.invokevirtual 142, 3) := by decide +kernel
theorem dX6_runLine_198 : decode cX6_runLine 198 = .ok (.ireturn, 1) := by decide +kernel
theorem dX6_runLine_199 : decode cX6_runLine 199 = .ok (.aload_n 0, 1) := by decide +kernel
theorem dX6_runLine_200 : decode cX6_runLine 200 = .ok (.iload_n 1, 1) := by decide +kernel
theorem dX6_runLine_201 : decode cX6_runLine 201 = .ok (.invokestatic 121, 3) := by decide +kernel
theorem dX6_runLine_204 : decode cX6_runLine 204 = .ok (.iload_n 2, 1) := by decide +kernel
theorem dX6_runLine_205 : decode cX6_runLine 205 = .ok (.iload_n 3, 1) := by decide +kernel
theorem dX6_runLine_206 : decode cX6_runLine 206 = .ok (.iload_n 1, 1) := by decide +kernel
theorem dX6_runLine_207 : decode cX6_runLine 207 = .ok (.invokestatic 105, 3) := by decide +kernel
theorem dX6_runLine_210 : decode cX6_runLine 210 = .ok (.invokevirtual 145, 3) := by decide +kernel
theorem dX6_runLine_213 : decode cX6_runLine 213 = .ok (.ireturn, 1) := by decide +kernel
def xX6_runLine_64  (t : Nat) (l1 : Int32) (l2 : Int32) (l3 : Int32) (M : j_M) : Option (Int32 × j_M) := osw l3 [((nI 6), obi (xX0_cpu l1 M) fun v2 M1 => obi (xX1_evictIfAllowed (t + 1) v2 l2 M1) fun v4 M3 => gz v4 (some (v4, M3))), ((nI 7), obi (xX1_deliverMany (t + 1) l2 (nI 0) M) fun v6 M5 => (if v6 ≤ (0 : Int32) then some ((nI 0), M5) else some ((nI 1), M5))), ((nI 8), obi (xX1_deliverMany (t + 1) l2 (nI 1) M) fun v8 M7 => (if v8 ≤ (0 : Int32) then some ((nI 0), M7) else some ((nI 1), M7))), ((nI 9), obv (xX1_ticks (t + 1) l2 M) fun M9 => some ((nI 1), M9)), ((nI 10), obi (xX1_calmRounds (t + 1) l2 M) fun v11 M10 => some ((nI 1), M10)), ((nI 11), obi (xX0_second l1 M) fun v13 M12 => obi (xX6_goRounds t l2 v13 M12) fun v15 M14 => some ((nI 1), M14)), ((nI 12), obi (xX1_setPolicy (t + 1) l2 M) fun v17 M16 => gz v17 (some (v17, M16)))] (obi (xX0_cpu l1 M) fun v19 M18 => obi (xX0_second l1 M18) fun v21 M20 => obi (xX6_begin t v19 l2 l3 v21 M20) fun v23 M22 => gz v23 (some (v23, M22)))
set_option maxRecDepth 20000 in
set_option maxHeartbeats 2000000 in
theorem tX6_runLine_64  (t : Nat)  (l1 : Int32) (l2 : Int32) (l3 : Int32) (M : j_M) : J (ρ := Int32 × j_M) yX6_runLine cX6_runLine 4 (some .boolean) 6 163 j_ei 64 [(0, .inr (12, 0, t)), (1, .inl (l1)), (2, .inl (l2)), (3, .inl (l3))] [] M (xX6_runLine_64 t l1 l2 l3 M) := by
  unfold xX6_runLine_64
  refine K_iload_n (q := 65) 3 dX6_runLine_64 rfl rfl rfl ?_
  refine K_tsw (dt := 199) [108, 121, 139, 157, 167, 178, 190] dX6_runLine_65 rfl rfl rfl rfl ⟨?_, ?_, ?_, ?_, ?_, ?_, ?_, trivial⟩ ?_
  · refine K_aload_n (q := 109) 0 dX6_runLine_108 rfl rfl rfl ?_
    refine K_getR (q := 112) (ci := 2) (a2 := t + 1) 1 dX6_runLine_109 fRX6_23 rfl rfl (by decide) rfl rfl ?_
    refine K_iload_n (q := 113) 1 dX6_runLine_112 rfl rfl rfl ?_
    refine K_csi (q := 116) [.inl (l1)] dX6_runLine_113 cb_X0_cpu cvRX6_121 rfl (Nat.le_of_ble_eq_true rfl) ⟨by decide, by decide⟩ (Nat.le_of_ble_eq_true rfl) rfl (tX0_cpu l1 M) rfl (fun v2 M1 => ?_)
    refine K_iload_n (q := 117) 2 dX6_runLine_116 rfl rfl rfl ?_
    refine K_cvi (q := 120) [.inl (v2), .inl (l2)] dX6_runLine_117 cb_X1_evictIfAllowed cvRX6_124 rc_0 (show (10 : Nat) ≠ 0 by decide) rfl (Nat.le_of_ble_eq_true rfl) ⟨by decide, by decide⟩ (Nat.le_of_ble_eq_true rfl) rfl (tX1_evictIfAllowed (t + 1) v2 l2 M1) rfl (fun v4 M3 => ?_)
    exact J_zretG dX6_runLine_120
  · refine K_aload_n (q := 122) 0 dX6_runLine_121 rfl rfl rfl ?_
    refine K_getR (q := 125) (ci := 2) (a2 := t + 1) 1 dX6_runLine_122 fRX6_23 rfl rfl (by decide) rfl rfl ?_
    refine K_iload_n (q := 126) 2 dX6_runLine_125 rfl rfl rfl ?_
    refine K_iconst (q := 127) (v := nI 0) dX6_runLine_126 rfl rfl ?_
    refine K_cvi (q := 130) [.inl (l2), .inl ((nI 0))] dX6_runLine_127 cb_X1_deliverMany cvRX6_128 rc_0 (show (10 : Nat) ≠ 0 by decide) rfl (Nat.le_of_ble_eq_true rfl) ⟨by decide, by decide⟩ (Nat.le_of_ble_eq_true rfl) rfl (tX1_deliverMany (t + 1) l2 (nI 0) M) rfl (fun v6 M5 => ?_)
    refine K_if_le (q := 133) (tgt := 137) dX6_runLine_130 rfl ?_ rfl ?_
    · refine K_iconst (q := 138) (v := nI 0) dX6_runLine_137 rfl rfl ?_
      exact J_zret dX6_runLine_138 (by decide)
    · refine K_iconst (q := 134) (v := nI 1) dX6_runLine_133 rfl rfl ?_
      refine J_goto (tgt := 138) dX6_runLine_134 rfl ?_
      exact J_zret dX6_runLine_138 (by decide)
  · refine K_aload_n (q := 140) 0 dX6_runLine_139 rfl rfl rfl ?_
    refine K_getR (q := 143) (ci := 2) (a2 := t + 1) 1 dX6_runLine_140 fRX6_23 rfl rfl (by decide) rfl rfl ?_
    refine K_iload_n (q := 144) 2 dX6_runLine_143 rfl rfl rfl ?_
    refine K_iconst (q := 145) (v := nI 1) dX6_runLine_144 rfl rfl ?_
    refine K_cvi (q := 148) [.inl (l2), .inl ((nI 1))] dX6_runLine_145 cb_X1_deliverMany cvRX6_128 rc_0 (show (10 : Nat) ≠ 0 by decide) rfl (Nat.le_of_ble_eq_true rfl) ⟨by decide, by decide⟩ (Nat.le_of_ble_eq_true rfl) rfl (tX1_deliverMany (t + 1) l2 (nI 1) M) rfl (fun v8 M7 => ?_)
    refine K_if_le (q := 151) (tgt := 155) dX6_runLine_148 rfl ?_ rfl ?_
    · refine K_iconst (q := 156) (v := nI 0) dX6_runLine_155 rfl rfl ?_
      exact J_zret dX6_runLine_156 (by decide)
    · refine K_iconst (q := 152) (v := nI 1) dX6_runLine_151 rfl rfl ?_
      refine J_goto (tgt := 156) dX6_runLine_152 rfl ?_
      exact J_zret dX6_runLine_156 (by decide)
  · refine K_aload_n (q := 158) 0 dX6_runLine_157 rfl rfl rfl ?_
    refine K_getR (q := 161) (ci := 2) (a2 := t + 1) 1 dX6_runLine_158 fRX6_23 rfl rfl (by decide) rfl rfl ?_
    refine K_iload_n (q := 162) 2 dX6_runLine_161 rfl rfl rfl ?_
    refine K_cvv (q := 165) [.inl (l2)] dX6_runLine_162 cb_X1_ticks cvRX6_132 rc_0 (show (10 : Nat) ≠ 0 by decide) rfl (Nat.le_of_ble_eq_true rfl) ⟨by decide, by decide⟩ (Nat.le_of_ble_eq_true rfl) rfl (tX1_ticks (t + 1) l2 M) rfl (fun M9 => ?_)
    refine K_iconst (q := 166) (v := nI 1) dX6_runLine_165 rfl rfl ?_
    exact J_zret dX6_runLine_166 (by decide)
  · refine K_aload_n (q := 168) 0 dX6_runLine_167 rfl rfl rfl ?_
    refine K_getR (q := 171) (ci := 2) (a2 := t + 1) 1 dX6_runLine_168 fRX6_23 rfl rfl (by decide) rfl rfl ?_
    refine K_iload_n (q := 172) 2 dX6_runLine_171 rfl rfl rfl ?_
    refine K_cvi (q := 175) [.inl (l2)] dX6_runLine_172 cb_X1_calmRounds cvRX6_135 rc_0 (show (10 : Nat) ≠ 0 by decide) rfl (Nat.le_of_ble_eq_true rfl) ⟨by decide, by decide⟩ (Nat.le_of_ble_eq_true rfl) rfl (tX1_calmRounds (t + 1) l2 M) rfl (fun v11 M10 => ?_)
    refine K_pop (q := 176) dX6_runLine_175 rfl ?_
    refine K_iconst (q := 177) (v := nI 1) dX6_runLine_176 rfl rfl ?_
    exact J_zret dX6_runLine_177 (by decide)
  · refine K_aload_n (q := 179) 0 dX6_runLine_178 rfl rfl rfl ?_
    refine K_iload_n (q := 180) 2 dX6_runLine_179 rfl rfl rfl ?_
    refine K_iload_n (q := 181) 1 dX6_runLine_180 rfl rfl rfl ?_
    refine K_csi (q := 184) [.inl (l1)] dX6_runLine_181 cb_X0_second cvRX6_105 rfl (Nat.le_of_ble_eq_true rfl) ⟨by decide, by decide⟩ (Nat.le_of_ble_eq_true rfl) rfl (tX0_second l1 M) rfl (fun v13 M12 => ?_)
    refine K_cvi (q := 187) [.inl (l2), .inl (v13)] dX6_runLine_184 cb_X6_goRounds cvRX6_138 rc_2 (show (12 : Nat) ≠ 0 by decide) rfl (Nat.le_of_ble_eq_true rfl) ⟨by decide, by decide⟩ (Nat.le_of_ble_eq_true rfl) rfl (tX6_goRounds t l2 v13 M12) rfl (fun v15 M14 => ?_)
    refine K_pop (q := 188) dX6_runLine_187 rfl ?_
    refine K_iconst (q := 189) (v := nI 1) dX6_runLine_188 rfl rfl ?_
    exact J_zret dX6_runLine_189 (by decide)
  · refine K_aload_n (q := 191) 0 dX6_runLine_190 rfl rfl rfl ?_
    refine K_getR (q := 194) (ci := 2) (a2 := t + 1) 1 dX6_runLine_191 fRX6_23 rfl rfl (by decide) rfl rfl ?_
    refine K_iload_n (q := 195) 2 dX6_runLine_194 rfl rfl rfl ?_
    refine K_cvi (q := 198) [.inl (l2)] dX6_runLine_195 cb_X1_setPolicy cvRX6_142 rc_0 (show (10 : Nat) ≠ 0 by decide) rfl (Nat.le_of_ble_eq_true rfl) ⟨by decide, by decide⟩ (Nat.le_of_ble_eq_true rfl) rfl (tX1_setPolicy (t + 1) l2 M) rfl (fun v17 M16 => ?_)
    exact J_zretG dX6_runLine_198
  · refine K_aload_n (q := 200) 0 dX6_runLine_199 rfl rfl rfl ?_
    refine K_iload_n (q := 201) 1 dX6_runLine_200 rfl rfl rfl ?_
    refine K_csi (q := 204) [.inl (l1)] dX6_runLine_201 cb_X0_cpu cvRX6_121 rfl (Nat.le_of_ble_eq_true rfl) ⟨by decide, by decide⟩ (Nat.le_of_ble_eq_true rfl) rfl (tX0_cpu l1 M) rfl (fun v19 M18 => ?_)
    refine K_iload_n (q := 205) 2 dX6_runLine_204 rfl rfl rfl ?_
    refine K_iload_n (q := 206) 3 dX6_runLine_205 rfl rfl rfl ?_
    refine K_iload_n (q := 207) 1 dX6_runLine_206 rfl rfl rfl ?_
    refine K_csi (q := 210) [.inl (l1)] dX6_runLine_207 cb_X0_second cvRX6_105 rfl (Nat.le_of_ble_eq_true rfl) ⟨by decide, by decide⟩ (Nat.le_of_ble_eq_true rfl) rfl (tX0_second l1 M18) rfl (fun v21 M20 => ?_)
    refine K_cvi (q := 213) [.inl (v19), .inl (l2), .inl (l3), .inl (v21)] dX6_runLine_210 cb_X6_begin cvRX6_145 rc_2 (show (12 : Nat) ≠ 0 by decide) rfl (Nat.le_of_ble_eq_true rfl) ⟨by decide, by decide⟩ (Nat.le_of_ble_eq_true rfl) rfl (tX6_begin t v19 l2 l3 v21 M20) rfl (fun v23 M22 => ?_)
    exact J_zretG dX6_runLine_213
def xX6_runLine (t : Nat)  (M : j_M) : Option (Int32 × j_M) := oli (M (t + 21) 6) fun v1 => gd v1 24 (oli (M (t + 26) (ix v1)) fun v2 => oli (M (t + 21) 6) fun v3 => oml (mw M (t + 21) 6 (v3 + (nI 1))) fun M4 => obi (xX0_first v2 M4) fun v6 M5 => obi (xX0_keyword v2 M5) fun v8 M7 => (if v8 < (nI 9) then xX6_runLine_64 t v2 v6 v8 M7 else (if (nI 11) < v8 then xX6_runLine_64 t v2 v6 v8 M7 else obi (xX1_hasTime (t + 1) v6 M7) fun v10 M9 => (if v10 = (0 : Int32) then some ((nI 0), M9) else xX6_runLine_64 t v2 v6 v8 M9))))
set_option maxRecDepth 20000 in
set_option maxHeartbeats 2000000 in
theorem tX6_runLine (t : Nat)  (M : j_M) : J (ρ := Int32 × j_M) yX6_runLine cX6_runLine 4 (some .boolean) 6 163 j_ei 0 [(0, .inr (12, 0, t))] [] M (xX6_runLine t  M) := by
  unfold xX6_runLine
  refine K_aload_n (q := 1) 0 dX6_runLine_0 rfl rfl rfl ?_
  refine K_getR (q := 4) (ci := 2) (a2 := t + 21) 2 dX6_runLine_1 fRX6_30 rfl rfl (by decide) rfl rfl ?_
  refine K_getR (q := 7) (ci := 4) (a2 := t + 26) 4 dX6_runLine_4 fRX6_112 rfl rfl (by decide) rfl rfl ?_
  refine K_aload_n (q := 8) 0 dX6_runLine_7 rfl rfl rfl ?_
  refine K_getR (q := 11) (ci := 2) (a2 := t + 21) 2 dX6_runLine_8 fRX6_30 rfl rfl (by decide) rfl rfl ?_
  refine K_getI (q := 14) (ci := 4) 6 dX6_runLine_11 fRX6_115 rfl rfl rfl (fun v1 => ?_)
  refine K_iald (q := 15) dX6_runLine_14 rfl (fun v2 => ?_)
  refine K_istore_n (q := 16) (ll' := [(1, .inl (v2)), (0, .inr (12, 0, t))]) dX6_runLine_15 rfl (by decide) rfl rfl ?_
  refine K_aload_n (q := 17) 1 dX6_runLine_16 rfl rfl rfl ?_
  refine K_getR (q := 20) (ci := 2) (a2 := t + 21) 2 dX6_runLine_17 fRX6_30 rfl rfl (by decide) rfl rfl ?_
  refine K_dup (q := 21) dX6_runLine_20 rfl ?_
  refine K_getI (q := 24) (ci := 4) 6 dX6_runLine_21 fRX6_115 rfl rfl rfl (fun v3 => ?_)
  refine K_iconst (q := 25) (v := nI 1) dX6_runLine_24 rfl rfl ?_
  refine K_iadd (q := 26) dX6_runLine_25 rfl ?_
  refine K_putI (q := 29) (ci := 4) 6 dX6_runLine_26 fRX6_115 fp_4_6 rfl rfl (by decide) rfl (fun M4 => ?_)
  refine K_iload_n (q := 30) 0 dX6_runLine_29 rfl rfl rfl ?_
  refine K_csi (q := 33) [.inl (v2)] dX6_runLine_30 cb_X0_first cvRX6_102 rfl (Nat.le_of_ble_eq_true rfl) ⟨by decide, by decide⟩ (Nat.le_of_ble_eq_true rfl) rfl (tX0_first v2 M4) rfl (fun v6 M5 => ?_)
  refine K_istore_n (q := 34) (ll' := [(2, .inl (v6)), (1, .inl (v2)), (0, .inr (12, 0, t))]) dX6_runLine_33 rfl (by decide) rfl rfl ?_
  refine K_iload_n (q := 35) 1 dX6_runLine_34 rfl rfl rfl ?_
  refine K_csi (q := 38) [.inl (v2)] dX6_runLine_35 cb_X0_keyword cvRX6_97 rfl (Nat.le_of_ble_eq_true rfl) ⟨by decide, by decide⟩ (Nat.le_of_ble_eq_true rfl) rfl (tX0_keyword v2 M5) rfl (fun v8 M7 => ?_)
  refine K_istore_n (q := 39) (ll' := [(3, .inl (v8)), (2, .inl (v6)), (1, .inl (v2)), (0, .inr (12, 0, t))]) dX6_runLine_38 rfl (by decide) rfl rfl ?_
  refine K_iload_n (q := 40) 0 dX6_runLine_39 rfl rfl rfl ?_
  refine K_bipush (q := 42) (v := nI 9) dX6_runLine_40 rfl rfl ?_
  refine K_icmp_lt (q := 45) (tgt := 64) dX6_runLine_42 rfl ?_ rfl ?_
  · exact J_sub [3, 2, 1, 0] (tX6_runLine_64 t v2 v6 v8 M7) rfl
  · refine K_iload_n (q := 46) 0 dX6_runLine_45 rfl rfl rfl ?_
    refine K_bipush (q := 48) (v := nI 11) dX6_runLine_46 rfl rfl ?_
    refine K_icmp_gt (q := 51) (tgt := 64) dX6_runLine_48 rfl ?_ rfl ?_
    · exact J_sub [3, 2, 1, 0] (tX6_runLine_64 t v2 v6 v8 M7) rfl
    · refine K_aload_n (q := 52) 3 dX6_runLine_51 rfl rfl rfl ?_
      refine K_getR (q := 55) (ci := 2) (a2 := t + 1) 1 dX6_runLine_52 fRX6_23 rfl rfl (by decide) rfl rfl ?_
      refine K_iload_n (q := 56) 1 dX6_runLine_55 rfl rfl rfl ?_
      refine K_cvi (q := 59) [.inl (v6)] dX6_runLine_56 cb_X1_hasTime cvRX6_118 rc_0 (show (10 : Nat) ≠ 0 by decide) rfl (Nat.le_of_ble_eq_true rfl) ⟨by decide, by decide⟩ (Nat.le_of_ble_eq_true rfl) rfl (tX1_hasTime (t + 1) v6 M7) rfl (fun v10 M9 => ?_)
      refine K_if_ne (q := 62) (tgt := 64) dX6_runLine_59 rfl ?_ rfl ?_
      · exact J_sub [3, 2, 1, 0] (tX6_runLine_64 t v2 v6 v8 M9) rfl
      · refine K_iconst (q := 63) (v := nI 0) dX6_runLine_62 rfl rfl ?_
        exact J_zret dX6_runLine_63 (by decide)
