theorem cb_X4_kind : j_CB yX4_kind cX4_kind 1 (some .int) 1 := ⟨by decide +kernel, j_in 521 (by decide +kernel) (by decide +kernel), j_in 117 (by decide +kernel) (by decide +kernel), by decide +kernel, by decide +kernel, by decide +kernel⟩
theorem cvRX4_9 : j_CS RX4 9 yX4_kind := ⟨Or.inl (j_in 931 (by decide +kernel) (by decide +kernel)), j_in 520 (by decide +kernel) (by decide +kernel)⟩
theorem dJ7_fill_53178_0 : decode cJ7_fill_53178 0 = .ok (.iconst 0, 1) := by decide +kernel
theorem dJ7_fill_53178_1 : decode cJ7_fill_53178 1 = .ok (.istore_n 2, 1) := by decide +kernel
theorem dJ7_fill_53178_2 : decode cJ7_fill_53178 2 = .ok (.aload_n 0, 1) := by decide +kernel
theorem dJ7_fill_53178_3 : decode cJ7_fill_53178 3 = .ok (.arraylength, 1) := by decide +kernel
theorem dJ7_fill_53178_4 : decode cJ7_fill_53178 4 = .ok (.istore_n 3, 1) := by decide +kernel
theorem dJ7_fill_53178_5 : decode cJ7_fill_53178 5 = .ok (.iload_n 2, 1) := by decide +kernel
theorem dJ7_fill_53178_6 : decode cJ7_fill_53178 6 = .ok (.iload_n 3, 1) := by decide +kernel
theorem dJ7_fill_53178_7 : decode cJ7_fill_53178 7 = .ok (.if_icmp .ge 13, 3) := by decide +kernel
theorem dJ7_fill_53178_10 : decode cJ7_fill_53178 10 = .ok (.aload_n 0, 1) := by decide +kernel
theorem dJ7_fill_53178_11 : decode cJ7_fill_53178 11 = .ok (.iload_n 2, 1) := by decide +kernel
theorem dJ7_fill_53178_12 : decode cJ7_fill_53178 12 = .ok (.iload_n 1, 1) := by decide +kernel
theorem dJ7_fill_53178_13 : decode cJ7_fill_53178 13 = .ok (.iastore, 1) := by decide +kernel
theorem dJ7_fill_53178_14 : decode cJ7_fill_53178 14 = .ok (.iinc 2 1, 3) := by decide +kernel
theorem dJ7_fill_53178_17 : decode cJ7_fill_53178 17 = .ok (.goto (-12), 3) := by decide +kernel
theorem dJ7_fill_53178_20 : decode cJ7_fill_53178 20 = .ok (.return_, 1) := by decide +kernel
def xJ7_fill_53178_5  (n0 : Nat) (u0 : Nat) : Nat → Int32 → Int32 → Int32 → j_M → Option (j_M)
  | 0, _, _, _, _ => none
  | n + 1, l1, l2, l3, M => (if l3 ≤ l2 then some M else gd l2 n0 (oml (mw M u0 (ix l2) l1) fun M1 => xJ7_fill_53178_5 n0 u0 n l1 (l2 + (nI 1)) l3 M1))
set_option maxRecDepth 20000 in
set_option maxHeartbeats 2000000 in
theorem tJ7_fill_53178_5  (n0 : Nat) (u0 : Nat)  : ∀ (n : Nat) (l1 : Int32) (l2 : Int32) (l3 : Int32) (M : j_M), J (ρ := j_M) yJ7_fill_53178 cJ7_fill_53178 4 none 0 0 j_ev 5 [(0, .inr (1, n0, u0)), (1, .inl (l1)), (2, .inl (l2)), (3, .inl (l3))] [] M (xJ7_fill_53178_5 n0 u0 n l1 l2 l3 M) := by
  intro n
  induction n with
  | zero => intros; exact J_none
  | succ n ih =>
    intro l1 l2 l3 M
    rw [xJ7_fill_53178_5.eq_2]
    refine K_iload_n (q := 6) 2 dJ7_fill_53178_5 rfl rfl rfl ?_
    refine K_iload_n (q := 7) 3 dJ7_fill_53178_6 rfl rfl rfl ?_
    refine K_icmp_ge (q := 10) (tgt := 20) dJ7_fill_53178_7 rfl ?_ rfl ?_
    · exact J_vret dJ7_fill_53178_20
    · refine K_aload_n (q := 11) 0 dJ7_fill_53178_10 rfl rfl rfl ?_
      refine K_iload_n (q := 12) 2 dJ7_fill_53178_11 rfl rfl rfl ?_
      refine K_iload_n (q := 13) 1 dJ7_fill_53178_12 rfl rfl rfl ?_
      refine K_iast (q := 14) dJ7_fill_53178_13 rfl (fun M1 => ?_)
      refine K_iinc (q := 17) (v := l2 + (nI 1)) (ll' := [(2, .inl (l2 + (nI 1))), (0, .inr (1, n0, u0)), (1, .inl (l1)), (3, .inl (l3))]) 2 dJ7_fill_53178_14 rfl rfl (by decide) rfl rfl ?_
      refine J_goto (tgt := 5) dJ7_fill_53178_17 rfl ?_
      exact J_sub [1, 2, 0, 3] (ih l1 (l2 + (nI 1)) l3 M1) rfl
def xJ7_fill_53178 (n0 : Nat) (u0 : Nat) (l1 : Int32) (M : j_M) : Option (j_M) := xJ7_fill_53178_5 n0 u0 fu l1 (nI 0) (Int32.ofNat n0) M
set_option maxRecDepth 20000 in
set_option maxHeartbeats 2000000 in
theorem tJ7_fill_53178 (n0 : Nat) (u0 : Nat) (l1 : Int32) (M : j_M) : J (ρ := j_M) yJ7_fill_53178 cJ7_fill_53178 4 none 0 0 j_ev 0 [(0, .inr (1, n0, u0)), (1, .inl (l1))] [] M (xJ7_fill_53178 n0 u0 l1 M) := by
  unfold xJ7_fill_53178
  refine K_iconst (q := 1) (v := nI 0) dJ7_fill_53178_0 rfl rfl ?_
  refine K_istore_n (q := 2) (ll' := [(2, .inl ((nI 0))), (0, .inr (1, n0, u0)), (1, .inl (l1))]) dJ7_fill_53178_1 rfl (by decide) rfl rfl ?_
  refine K_aload_n (q := 3) 1 dJ7_fill_53178_2 rfl rfl rfl ?_
  refine K_alen (q := 4) (v := Int32.ofNat n0) dJ7_fill_53178_3 rfl rfl ?_
  refine K_istore_n (q := 5) (ll' := [(3, .inl (Int32.ofNat n0)), (2, .inl ((nI 0))), (0, .inr (1, n0, u0)), (1, .inl (l1))]) dJ7_fill_53178_4 rfl (by decide) rfl rfl ?_
  exact J_sub [2, 3, 1, 0] (tJ7_fill_53178_5 n0 u0 fu l1 (nI 0) (Int32.ofNat n0) M) rfl
theorem dX4_kind_0 : decode cX4_kind 0 = .ok (.iload_n 0, 1) := by decide +kernel
theorem dX4_kind_1 : decode cX4_kind 1 = .ok (.bipush 6, 2) := by decide +kernel
theorem dX4_kind_3 : decode cX4_kind 3 = .ok (.iushr, 1) := by decide +kernel
theorem dX4_kind_4 : decode cX4_kind 4 = .ok (.bipush 7, 2) := by decide +kernel
theorem dX4_kind_6 : decode cX4_kind 6 = .ok (.iand, 1) := by decide +kernel
theorem dX4_kind_7 : decode cX4_kind 7 = .ok (.ireturn, 1) := by decide +kernel
def xX4_kind  (l0 : Int32) (M : j_M) : Option (Int32 × j_M) := some ((us l0 (nI 6)) &&& (nI 7), M)
set_option maxRecDepth 20000 in
set_option maxHeartbeats 2000000 in
theorem tX4_kind  (l0 : Int32) (M : j_M) : J (ρ := Int32 × j_M) yX4_kind cX4_kind 1 (some .int) 0 0 j_ei 0 [(0, .inl (l0))] [] M (xX4_kind  l0 M) := by
  unfold xX4_kind
  refine K_iload_n (q := 1) 0 dX4_kind_0 rfl rfl rfl ?_
  refine K_bipush (q := 3) (v := nI 6) dX4_kind_1 rfl rfl ?_
  refine K_iushr (q := 4) dX4_kind_3 rfl ?_
  refine K_bipush (q := 6) (v := nI 7) dX4_kind_4 rfl rfl ?_
  refine K_iand (q := 7) dX4_kind_6 rfl ?_
  exact J_iret dX4_kind_7
theorem dX7_line_0 : decode cX7_line 0 = .ok (.iload_n 0, 1) := by decide +kernel
theorem dX7_line_1 : decode cX7_line 1 = .ok (.iconst 2, 1) := by decide +kernel
theorem dX7_line_2 : decode cX7_line 2 = .ok (.iushr, 1) := by decide +kernel
theorem dX7_line_3 : decode cX7_line 3 = .ok (.bipush 7, 2) := by decide +kernel
theorem dX7_line_5 : decode cX7_line 5 = .ok (.iand, 1) := by decide +kernel
theorem dX7_line_6 : decode cX7_line 6 = .ok (.ireturn, 1) := by decide +kernel
def xX7_line  (l0 : Int32) (M : j_M) : Option (Int32 × j_M) := some ((us l0 (nI 2)) &&& (nI 7), M)
set_option maxRecDepth 20000 in
set_option maxHeartbeats 2000000 in
theorem tX7_line  (l0 : Int32) (M : j_M) : J (ρ := Int32 × j_M) yX7_line cX7_line 1 (some .int) 0 0 j_ei 0 [(0, .inl (l0))] [] M (xX7_line  l0 M) := by
  unfold xX7_line
  refine K_iload_n (q := 1) 0 dX7_line_0 rfl rfl rfl ?_
  refine K_iconst (q := 2) (v := nI 2) dX7_line_1 rfl rfl ?_
  refine K_iushr (q := 3) dX7_line_2 rfl ?_
  refine K_bipush (q := 5) (v := nI 7) dX7_line_3 rfl rfl ?_
  refine K_iand (q := 6) dX7_line_5 rfl ?_
  exact J_iret dX7_line_6
theorem dX7_what_0 : decode cX7_what 0 = .ok (.iload_n 0, 1) := by decide +kernel
theorem dX7_what_1 : decode cX7_what 1 = .ok (.iconst 3, 1) := by decide +kernel
theorem dX7_what_2 : decode cX7_what 2 = .ok (.iand, 1) := by decide +kernel
theorem dX7_what_3 : decode cX7_what 3 = .ok (.ireturn, 1) := by decide +kernel
def xX7_what  (l0 : Int32) (M : j_M) : Option (Int32 × j_M) := some (l0 &&& (nI 3), M)
set_option maxRecDepth 20000 in
set_option maxHeartbeats 2000000 in
theorem tX7_what  (l0 : Int32) (M : j_M) : J (ρ := Int32 × j_M) yX7_what cX7_what 1 (some .int) 0 0 j_ei 0 [(0, .inl (l0))] [] M (xX7_what  l0 M) := by
  unfold xX7_what
  refine K_iload_n (q := 1) 0 dX7_what_0 rfl rfl rfl ?_
  refine K_iconst (q := 2) (v := nI 3) dX7_what_1 rfl rfl ?_
  refine K_iand (q := 3) dX7_what_2 rfl ?_
  exact J_iret dX7_what_3
theorem dX3_data_0 : decode cX3_data 0 = .ok (.iload_n 0, 1) := by decide +kernel
theorem dX3_data_1 : decode cX3_data 1 = .ok (.bipush 6, 2) := by decide +kernel
theorem dX3_data_3 : decode cX3_data 3 = .ok (.iushr, 1) := by decide +kernel
theorem dX3_data_4 : decode cX3_data 4 = .ok (.ireturn, 1) := by decide +kernel
def xX3_data  (l0 : Int32) (M : j_M) : Option (Int32 × j_M) := some (us l0 (nI 6), M)
set_option maxRecDepth 20000 in
set_option maxHeartbeats 2000000 in
theorem tX3_data  (l0 : Int32) (M : j_M) : J (ρ := Int32 × j_M) yX3_data cX3_data 1 (some .int) 0 0 j_ei 0 [(0, .inl (l0))] [] M (xX3_data  l0 M) := by
  unfold xX3_data
  refine K_iload_n (q := 1) 0 dX3_data_0 rfl rfl rfl ?_
  refine K_bipush (q := 3) (v := nI 6) dX3_data_1 rfl rfl ?_
  refine K_iushr (q := 4) dX3_data_3 rfl ?_
  exact J_iret dX3_data_4
theorem dX3_withData_0 : decode cX3_withData 0 = .ok (.iload_n 0, 1) := by decide +kernel
theorem dX3_withData_1 : decode cX3_withData 1 = .ok (.bipush 15, 2) := by decide +kernel
theorem dX3_withData_3 : decode cX3_withData 3 = .ok (.iand, 1) := by decide +kernel
theorem dX3_withData_4 : decode cX3_withData 4 = .ok (.iload_n 0, 1) := by decide +kernel
theorem dX3_withData_5 : decode cX3_withData 5 = .ok (.bipush 16, 2) := by decide +kernel
theorem dX3_withData_7 : decode cX3_withData 7 = .ok (.iand, 1) := by decide +kernel
theorem dX3_withData_8 : decode cX3_withData 8 = .ok (.ior, 1) := by decide +kernel
theorem dX3_withData_9 : decode cX3_withData 9 = .ok (.bipush 32, 2) := by decide +kernel
theorem dX3_withData_11 : decode cX3_withData 11 = .ok (.ior, 1) := by decide +kernel
theorem dX3_withData_12 : decode cX3_withData 12 = .ok (.iload_n 1, 1) := by decide +kernel
theorem dX3_withData_13 : decode cX3_withData 13 = .ok (.bipush 6, 2) := by decide +kernel
theorem dX3_withData_15 : decode cX3_withData 15 = .ok (.ishl, 1) := by decide +kernel
theorem dX3_withData_16 : decode cX3_withData 16 = .ok (.ior, 1) := by decide +kernel
theorem dX3_withData_17 : decode cX3_withData 17 = .ok (.ireturn, 1) := by decide +kernel
def xX3_withData  (l0 : Int32) (l1 : Int32) (M : j_M) : Option (Int32 × j_M) := some ((((l0 &&& (nI 15)) ||| (l0 &&& (nI 16))) ||| (nI 32)) ||| (l1 <<< ((nI 6) &&& 31)), M)
set_option maxRecDepth 20000 in
set_option maxHeartbeats 2000000 in
theorem tX3_withData  (l0 : Int32) (l1 : Int32) (M : j_M) : J (ρ := Int32 × j_M) yX3_withData cX3_withData 2 (some .int) 0 0 j_ei 0 [(0, .inl (l0)), (1, .inl (l1))] [] M (xX3_withData  l0 l1 M) := by
  unfold xX3_withData
  refine K_iload_n (q := 1) 0 dX3_withData_0 rfl rfl rfl ?_
  refine K_bipush (q := 3) (v := nI 15) dX3_withData_1 rfl rfl ?_
  refine K_iand (q := 4) dX3_withData_3 rfl ?_
  refine K_iload_n (q := 5) 0 dX3_withData_4 rfl rfl rfl ?_
  refine K_bipush (q := 7) (v := nI 16) dX3_withData_5 rfl rfl ?_
  refine K_iand (q := 8) dX3_withData_7 rfl ?_
  refine K_ior (q := 9) dX3_withData_8 rfl ?_
  refine K_bipush (q := 11) (v := nI 32) dX3_withData_9 rfl rfl ?_
  refine K_ior (q := 12) dX3_withData_11 rfl ?_
  refine K_iload_n (q := 13) 1 dX3_withData_12 rfl rfl rfl ?_
  refine K_bipush (q := 15) (v := nI 6) dX3_withData_13 rfl rfl ?_
  refine K_ishl (q := 16) dX3_withData_15 rfl ?_
  refine K_ior (q := 17) dX3_withData_16 rfl ?_
  exact J_iret dX3_withData_17
theorem dX3_count_0 : decode cX3_count 0 = .ok (.iload_n 0, 1) := by decide +kernel
theorem dX3_count_1 : decode cX3_count 1 = .ok (.bipush 15, 2) := by decide +kernel
theorem dX3_count_3 : decode cX3_count 3 = .ok (.iand, 1) := by decide +kernel
theorem dX3_count_4 : decode cX3_count 4 = .ok (.ireturn, 1) := by decide +kernel
def xX3_count  (l0 : Int32) (M : j_M) : Option (Int32 × j_M) := some (l0 &&& (nI 15), M)
set_option maxRecDepth 20000 in
set_option maxHeartbeats 2000000 in
theorem tX3_count  (l0 : Int32) (M : j_M) : J (ρ := Int32 × j_M) yX3_count cX3_count 1 (some .int) 0 0 j_ei 0 [(0, .inl (l0))] [] M (xX3_count  l0 M) := by
  unfold xX3_count
  refine K_iload_n (q := 1) 0 dX3_count_0 rfl rfl rfl ?_
  refine K_bipush (q := 3) (v := nI 15) dX3_count_1 rfl rfl ?_
  refine K_iand (q := 4) dX3_count_3 rfl ?_
  exact J_iret dX3_count_4
theorem dX3_isValid_0 : decode cX3_isValid 0 = .ok (.iload_n 0, 1) := by decide +kernel
theorem dX3_isValid_1 : decode cX3_isValid 1 = .ok (.bipush 32, 2) := by decide +kernel
theorem dX3_isValid_3 : decode cX3_isValid 3 = .ok (.iand, 1) := by decide +kernel
theorem dX3_isValid_4 : decode cX3_isValid 4 = .ok (.ifCond .eq 7, 3) := by decide +kernel
theorem dX3_isValid_7 : decode cX3_isValid 7 = .ok (.iconst 1, 1) := by decide +kernel
theorem dX3_isValid_8 : decode cX3_isValid 8 = .ok (.goto 4, 3) := by decide +kernel
theorem dX3_isValid_11 : decode cX3_isValid 11 = .ok (.iconst 0, 1) := by decide +kernel
theorem dX3_isValid_12 : decode cX3_isValid 12 = .ok (.ireturn, 1) := by decide +kernel
def xX3_isValid  (l0 : Int32) (M : j_M) : Option (Int32 × j_M) := (if l0 &&& (nI 32) = (0 : Int32) then some ((nI 0), M) else some ((nI 1), M))
set_option maxRecDepth 20000 in
set_option maxHeartbeats 2000000 in
theorem tX3_isValid  (l0 : Int32) (M : j_M) : J (ρ := Int32 × j_M) yX3_isValid cX3_isValid 1 (some .boolean) 0 0 j_ei 0 [(0, .inl (l0))] [] M (xX3_isValid  l0 M) := by
  unfold xX3_isValid
  refine K_iload_n (q := 1) 0 dX3_isValid_0 rfl rfl rfl ?_
  refine K_bipush (q := 3) (v := nI 32) dX3_isValid_1 rfl rfl ?_
  refine K_iand (q := 4) dX3_isValid_3 rfl ?_
  refine K_if_eq (q := 7) (tgt := 11) dX3_isValid_4 rfl ?_ rfl ?_
  · refine K_iconst (q := 12) (v := nI 0) dX3_isValid_11 rfl rfl ?_
    exact J_zret dX3_isValid_12 (by decide)
  · refine K_iconst (q := 8) (v := nI 1) dX3_isValid_7 rfl rfl ?_
    refine J_goto (tgt := 12) dX3_isValid_8 rfl ?_
    exact J_zret dX3_isValid_12 (by decide)
theorem dX7_of_0 : decode cX7_of 0 = .ok (.iload_n 1, 1) := by decide +kernel
theorem dX7_of_1 : decode cX7_of 1 = .ok (.iload_n 0, 1) := by decide +kernel
theorem dX7_of_2 : decode cX7_of 2 = .ok (.iconst 2, 1) := by decide +kernel
theorem dX7_of_3 : decode cX7_of 3 = .ok (.ishl, 1) := by decide +kernel
theorem dX7_of_4 : decode cX7_of 4 = .ok (.ior, 1) := by decide +kernel
theorem dX7_of_5 : decode cX7_of 5 = .ok (.iload_n 2, 1) := by decide +kernel
theorem dX7_of_6 : decode cX7_of 6 = .ok (.bipush 6, 2) := by decide +kernel
theorem dX7_of_8 : decode cX7_of 8 = .ok (.ishl, 1) := by decide +kernel
theorem dX7_of_9 : decode cX7_of 9 = .ok (.ior, 1) := by decide +kernel
theorem dX7_of_10 : decode cX7_of 10 = .ok (.ireturn, 1) := by decide +kernel
def xX7_of  (l0 : Int32) (l1 : Int32) (l2 : Int32) (M : j_M) : Option (Int32 × j_M) := some ((l1 ||| (l0 <<< ((nI 2) &&& 31))) ||| (l2 <<< ((nI 6) &&& 31)), M)
set_option maxRecDepth 20000 in
set_option maxHeartbeats 2000000 in
theorem tX7_of  (l0 : Int32) (l1 : Int32) (l2 : Int32) (M : j_M) : J (ρ := Int32 × j_M) yX7_of cX7_of 3 (some .int) 0 0 j_ei 0 [(0, .inl (l0)), (1, .inl (l1)), (2, .inl (l2))] [] M (xX7_of  l0 l1 l2 M) := by
  unfold xX7_of
  refine K_iload_n (q := 1) 1 dX7_of_0 rfl rfl rfl ?_
  refine K_iload_n (q := 2) 0 dX7_of_1 rfl rfl rfl ?_
  refine K_iconst (q := 3) (v := nI 2) dX7_of_2 rfl rfl ?_
  refine K_ishl (q := 4) dX7_of_3 rfl ?_
  refine K_ior (q := 5) dX7_of_4 rfl ?_
  refine K_iload_n (q := 6) 2 dX7_of_5 rfl rfl rfl ?_
  refine K_bipush (q := 8) (v := nI 6) dX7_of_6 rfl rfl ?_
  refine K_ishl (q := 9) dX7_of_8 rfl ?_
  refine K_ior (q := 10) dX7_of_9 rfl ?_
  exact J_iret dX7_of_10
theorem dX2_isActiveFor_0 : decode cX2_isActiveFor 0 = .ok (.iload_n 0, 1) := by decide +kernel
theorem dX2_isActiveFor_1 : decode cX2_isActiveFor 1 = .ok (.iconst 1, 1) := by decide +kernel
theorem dX2_isActiveFor_2 : decode cX2_isActiveFor 2 = .ok (.iand, 1) := by decide +kernel
theorem dX2_isActiveFor_3 : decode cX2_isActiveFor 3 = .ok (.ifCond .eq 17, 3) := by decide +kernel
theorem dX2_isActiveFor_6 : decode cX2_isActiveFor 6 = .ok (.iload_n 0, 1) := by decide +kernel
theorem dX2_isActiveFor_7 : decode cX2_isActiveFor 7 = .ok (.iconst 4, 1) := by decide +kernel
theorem dX2_isActiveFor_8 : decode cX2_isActiveFor 8 = .ok (.iushr, 1) := by decide +kernel
theorem dX2_isActiveFor_9 : decode cX2_isActiveFor 9 = .ok (.bipush 7, 2) := by decide +kernel
theorem dX2_isActiveFor_11 : decode cX2_isActiveFor 11 = .ok (.iand, 1) := by decide +kernel
theorem dX2_isActiveFor_12 : decode cX2_isActiveFor 12 = .ok (.iload_n 1, 1) := by decide +kernel
theorem dX2_isActiveFor_13 : decode cX2_isActiveFor 13 = .ok (.if_icmp .ne 7, 3) := by decide +kernel
theorem dX2_isActiveFor_16 : decode cX2_isActiveFor 16 = .ok (.iconst 1, 1) := by decide +kernel
theorem dX2_isActiveFor_17 : decode cX2_isActiveFor 17 = .ok (.goto 4, 3) := by decide +kernel
theorem dX2_isActiveFor_20 : decode cX2_isActiveFor 20 = .ok (.iconst 0, 1) := by decide +kernel
theorem dX2_isActiveFor_21 : decode cX2_isActiveFor 21 = .ok (.ireturn, 1) := by decide +kernel
def xX2_isActiveFor  (l0 : Int32) (l1 : Int32) (M : j_M) : Option (Int32 × j_M) := (if l0 &&& (nI 1) = (0 : Int32) then some ((nI 0), M) else (if (us l0 (nI 4)) &&& (nI 7) = l1 then some ((nI 1), M) else some ((nI 0), M)))
set_option maxRecDepth 20000 in
set_option maxHeartbeats 2000000 in
theorem tX2_isActiveFor  (l0 : Int32) (l1 : Int32) (M : j_M) : J (ρ := Int32 × j_M) yX2_isActiveFor cX2_isActiveFor 2 (some .boolean) 0 0 j_ei 0 [(0, .inl (l0)), (1, .inl (l1))] [] M (xX2_isActiveFor  l0 l1 M) := by
  unfold xX2_isActiveFor
  refine K_iload_n (q := 1) 0 dX2_isActiveFor_0 rfl rfl rfl ?_
  refine K_iconst (q := 2) (v := nI 1) dX2_isActiveFor_1 rfl rfl ?_
  refine K_iand (q := 3) dX2_isActiveFor_2 rfl ?_
  refine K_if_eq (q := 6) (tgt := 20) dX2_isActiveFor_3 rfl ?_ rfl ?_
  · refine K_iconst (q := 21) (v := nI 0) dX2_isActiveFor_20 rfl rfl ?_
    exact J_zret dX2_isActiveFor_21 (by decide)
  · refine K_iload_n (q := 7) 0 dX2_isActiveFor_6 rfl rfl rfl ?_
    refine K_iconst (q := 8) (v := nI 4) dX2_isActiveFor_7 rfl rfl ?_
    refine K_iushr (q := 9) dX2_isActiveFor_8 rfl ?_
    refine K_bipush (q := 11) (v := nI 7) dX2_isActiveFor_9 rfl rfl ?_
    refine K_iand (q := 12) dX2_isActiveFor_11 rfl ?_
    refine K_iload_n (q := 13) 1 dX2_isActiveFor_12 rfl rfl rfl ?_
    refine K_icmp_ne (q := 16) (tgt := 20) dX2_isActiveFor_13 rfl ?_ rfl ?_
    · refine K_iconst (q := 21) (v := nI 0) dX2_isActiveFor_20 rfl rfl ?_
      exact J_zret dX2_isActiveFor_21 (by decide)
    · refine K_iconst (q := 17) (v := nI 1) dX2_isActiveFor_16 rfl rfl ?_
      refine J_goto (tgt := 21) dX2_isActiveFor_17 rfl ?_
      exact J_zret dX2_isActiveFor_21 (by decide)
theorem dX3_isOwner_0 : decode cX3_isOwner 0 = .ok (.iload_n 0, 1) := by decide +kernel
theorem dX3_isOwner_1 : decode cX3_isOwner 1 = .ok (.bipush 16, 2) := by decide +kernel
theorem dX3_isOwner_3 : decode cX3_isOwner 3 = .ok (.iand, 1) := by decide +kernel
theorem dX3_isOwner_4 : decode cX3_isOwner 4 = .ok (.ifCond .eq 7, 3) := by decide +kernel
theorem dX3_isOwner_7 : decode cX3_isOwner 7 = .ok (.iconst 1, 1) := by decide +kernel
theorem dX3_isOwner_8 : decode cX3_isOwner 8 = .ok (.goto 4, 3) := by decide +kernel
theorem dX3_isOwner_11 : decode cX3_isOwner 11 = .ok (.iconst 0, 1) := by decide +kernel
theorem dX3_isOwner_12 : decode cX3_isOwner 12 = .ok (.ireturn, 1) := by decide +kernel
def xX3_isOwner  (l0 : Int32) (M : j_M) : Option (Int32 × j_M) := (if l0 &&& (nI 16) = (0 : Int32) then some ((nI 0), M) else some ((nI 1), M))
set_option maxRecDepth 20000 in
set_option maxHeartbeats 2000000 in
theorem tX3_isOwner  (l0 : Int32) (M : j_M) : J (ρ := Int32 × j_M) yX3_isOwner cX3_isOwner 1 (some .boolean) 0 0 j_ei 0 [(0, .inl (l0))] [] M (xX3_isOwner  l0 M) := by
  unfold xX3_isOwner
  refine K_iload_n (q := 1) 0 dX3_isOwner_0 rfl rfl rfl ?_
  refine K_bipush (q := 3) (v := nI 16) dX3_isOwner_1 rfl rfl ?_
  refine K_iand (q := 4) dX3_isOwner_3 rfl ?_
  refine K_if_eq (q := 7) (tgt := 11) dX3_isOwner_4 rfl ?_ rfl ?_
  · refine K_iconst (q := 12) (v := nI 0) dX3_isOwner_11 rfl rfl ?_
    exact J_zret dX3_isOwner_12 (by decide)
  · refine K_iconst (q := 8) (v := nI 1) dX3_isOwner_7 rfl rfl ?_
    refine J_goto (tgt := 12) dX3_isOwner_8 rfl ?_
    exact J_zret dX3_isOwner_12 (by decide)
theorem dX2_what_0 : decode cX2_what 0 = .ok (.iload_n 0, 1) := by decide +kernel
theorem dX2_what_1 : decode cX2_what 1 = .ok (.iconst 2, 1) := by decide +kernel
theorem dX2_what_2 : decode cX2_what 2 = .ok (.iushr, 1) := by decide +kernel
theorem dX2_what_3 : decode cX2_what 3 = .ok (.iconst 3, 1) := by decide +kernel
theorem dX2_what_4 : decode cX2_what 4 = .ok (.iand, 1) := by decide +kernel
theorem dX2_what_5 : decode cX2_what 5 = .ok (.ireturn, 1) := by decide +kernel
def xX2_what  (l0 : Int32) (M : j_M) : Option (Int32 × j_M) := some ((us l0 (nI 2)) &&& (nI 3), M)
set_option maxRecDepth 20000 in
set_option maxHeartbeats 2000000 in
theorem tX2_what  (l0 : Int32) (M : j_M) : J (ρ := Int32 × j_M) yX2_what cX2_what 1 (some .int) 0 0 j_ei 0 [(0, .inl (l0))] [] M (xX2_what  l0 M) := by
  unfold xX2_what
  refine K_iload_n (q := 1) 0 dX2_what_0 rfl rfl rfl ?_
  refine K_iconst (q := 2) (v := nI 2) dX2_what_1 rfl rfl ?_
  refine K_iushr (q := 3) dX2_what_2 rfl ?_
  refine K_iconst (q := 4) (v := nI 3) dX2_what_3 rfl rfl ?_
  refine K_iand (q := 5) dX2_what_4 rfl ?_
  exact J_iret dX2_what_5
theorem dX2_active_0 : decode cX2_active 0 = .ok (.iconst 1, 1) := by decide +kernel
theorem dX2_active_1 : decode cX2_active 1 = .ok (.iload_n 2, 1) := by decide +kernel
theorem dX2_active_2 : decode cX2_active 2 = .ok (.iconst 2, 1) := by decide +kernel
theorem dX2_active_3 : decode cX2_active 3 = .ok (.ishl, 1) := by decide +kernel
theorem dX2_active_4 : decode cX2_active 4 = .ok (.ior, 1) := by decide +kernel
theorem dX2_active_5 : decode cX2_active 5 = .ok (.iload_n 1, 1) := by decide +kernel
theorem dX2_active_6 : decode cX2_active 6 = .ok (.iconst 4, 1) := by decide +kernel
theorem dX2_active_7 : decode cX2_active 7 = .ok (.ishl, 1) := by decide +kernel
theorem dX2_active_8 : decode cX2_active 8 = .ok (.ior, 1) := by decide +kernel
theorem dX2_active_9 : decode cX2_active 9 = .ok (.iload_n 0, 1) := by decide +kernel
theorem dX2_active_10 : decode cX2_active 10 = .ok (.bipush 7, 2) := by decide +kernel
theorem dX2_active_12 : decode cX2_active 12 = .ok (.ishl, 1) := by decide +kernel
theorem dX2_active_13 : decode cX2_active 13 = .ok (.ior, 1) := by decide +kernel
theorem dX2_active_14 : decode cX2_active 14 = .ok (.ireturn, 1) := by decide +kernel
def xX2_active  (l0 : Int32) (l1 : Int32) (l2 : Int32) (M : j_M) : Option (Int32 × j_M) := some ((((nI 1) ||| (l2 <<< ((nI 2) &&& 31))) ||| (l1 <<< ((nI 4) &&& 31))) ||| (l0 <<< ((nI 7) &&& 31)), M)
set_option maxRecDepth 20000 in
set_option maxHeartbeats 2000000 in
theorem tX2_active  (l0 : Int32) (l1 : Int32) (l2 : Int32) (M : j_M) : J (ρ := Int32 × j_M) yX2_active cX2_active 3 (some .int) 0 0 j_ei 0 [(0, .inl (l0)), (1, .inl (l1)), (2, .inl (l2))] [] M (xX2_active  l0 l1 l2 M) := by
  unfold xX2_active
  refine K_iconst (q := 1) (v := nI 1) dX2_active_0 rfl rfl ?_
  refine K_iload_n (q := 2) 2 dX2_active_1 rfl rfl rfl ?_
  refine K_iconst (q := 3) (v := nI 2) dX2_active_2 rfl rfl ?_
  refine K_ishl (q := 4) dX2_active_3 rfl ?_
  refine K_ior (q := 5) dX2_active_4 rfl ?_
  refine K_iload_n (q := 6) 1 dX2_active_5 rfl rfl rfl ?_
  refine K_iconst (q := 7) (v := nI 4) dX2_active_6 rfl rfl ?_
  refine K_ishl (q := 8) dX2_active_7 rfl ?_
  refine K_ior (q := 9) dX2_active_8 rfl ?_
  refine K_iload_n (q := 10) 0 dX2_active_9 rfl rfl rfl ?_
  refine K_bipush (q := 12) (v := nI 7) dX2_active_10 rfl rfl ?_
  refine K_ishl (q := 13) dX2_active_12 rfl ?_
  refine K_ior (q := 14) dX2_active_13 rfl ?_
  exact J_iret dX2_active_14
theorem dX2_seq_0 : decode cX2_seq 0 = .ok (.iload_n 0, 1) := by decide +kernel
theorem dX2_seq_1 : decode cX2_seq 1 = .ok (.bipush 7, 2) := by decide +kernel
theorem dX2_seq_3 : decode cX2_seq 3 = .ok (.iushr, 1) := by decide +kernel
theorem dX2_seq_4 : decode cX2_seq 4 = .ok (.ireturn, 1) := by decide +kernel
def xX2_seq  (l0 : Int32) (M : j_M) : Option (Int32 × j_M) := some (us l0 (nI 7), M)
set_option maxRecDepth 20000 in
set_option maxHeartbeats 2000000 in
theorem tX2_seq  (l0 : Int32) (M : j_M) : J (ρ := Int32 × j_M) yX2_seq cX2_seq 1 (some .int) 0 0 j_ei 0 [(0, .inl (l0))] [] M (xX2_seq  l0 M) := by
  unfold xX2_seq
  refine K_iload_n (q := 1) 0 dX2_seq_0 rfl rfl rfl ?_
  refine K_bipush (q := 3) (v := nI 7) dX2_seq_1 rfl rfl ?_
  refine K_iushr (q := 4) dX2_seq_3 rfl ?_
  exact J_iret dX2_seq_4
theorem dX2_recalled_0 : decode cX2_recalled 0 = .ok (.iload_n 0, 1) := by decide +kernel
theorem dX2_recalled_1 : decode cX2_recalled 1 = .ok (.bipush 124, 2) := by decide +kernel
theorem dX2_recalled_3 : decode cX2_recalled 3 = .ok (.iand, 1) := by decide +kernel
theorem dX2_recalled_4 : decode cX2_recalled 4 = .ok (.iload_n 1, 1) := by decide +kernel
theorem dX2_recalled_5 : decode cX2_recalled 5 = .ok (.bipush 7, 2) := by decide +kernel
theorem dX2_recalled_7 : decode cX2_recalled 7 = .ok (.ishl, 1) := by decide +kernel
theorem dX2_recalled_8 : decode cX2_recalled 8 = .ok (.ior, 1) := by decide +kernel
theorem dX2_recalled_9 : decode cX2_recalled 9 = .ok (.ireturn, 1) := by decide +kernel
def xX2_recalled  (l0 : Int32) (l1 : Int32) (M : j_M) : Option (Int32 × j_M) := some ((l0 &&& (nI 124)) ||| (l1 <<< ((nI 7) &&& 31)), M)
set_option maxRecDepth 20000 in
set_option maxHeartbeats 2000000 in
theorem tX2_recalled  (l0 : Int32) (l1 : Int32) (M : j_M) : J (ρ := Int32 × j_M) yX2_recalled cX2_recalled 2 (some .int) 0 0 j_ei 0 [(0, .inl (l0)), (1, .inl (l1))] [] M (xX2_recalled  l0 l1 M) := by
  unfold xX2_recalled
  refine K_iload_n (q := 1) 0 dX2_recalled_0 rfl rfl rfl ?_
  refine K_bipush (q := 3) (v := nI 124) dX2_recalled_1 rfl rfl ?_
  refine K_iand (q := 4) dX2_recalled_3 rfl ?_
  refine K_iload_n (q := 5) 1 dX2_recalled_4 rfl rfl rfl ?_
  refine K_bipush (q := 7) (v := nI 7) dX2_recalled_5 rfl rfl ?_
  refine K_ishl (q := 8) dX2_recalled_7 rfl ?_
  refine K_ior (q := 9) dX2_recalled_8 rfl ?_
  exact J_iret dX2_recalled_9
theorem dX7_isForGood_0 : decode cX7_isForGood 0 = .ok (.iload_n 0, 1) := by decide +kernel
theorem dX7_isForGood_1 : decode cX7_isForGood 1 = .ok (.bipush 32, 2) := by decide +kernel
theorem dX7_isForGood_3 : decode cX7_isForGood 3 = .ok (.iand, 1) := by decide +kernel
theorem dX7_isForGood_4 : decode cX7_isForGood 4 = .ok (.ifCond .eq 7, 3) := by decide +kernel
theorem dX7_isForGood_7 : decode cX7_isForGood 7 = .ok (.iconst 1, 1) := by decide +kernel
theorem dX7_isForGood_8 : decode cX7_isForGood 8 = .ok (.goto 4, 3) := by decide +kernel
theorem dX7_isForGood_11 : decode cX7_isForGood 11 = .ok (.iconst 0, 1) := by decide +kernel
theorem dX7_isForGood_12 : decode cX7_isForGood 12 = .ok (.ireturn, 1) := by decide +kernel
def xX7_isForGood  (l0 : Int32) (M : j_M) : Option (Int32 × j_M) := (if l0 &&& (nI 32) = (0 : Int32) then some ((nI 0), M) else some ((nI 1), M))
set_option maxRecDepth 20000 in
set_option maxHeartbeats 2000000 in
theorem tX7_isForGood  (l0 : Int32) (M : j_M) : J (ρ := Int32 × j_M) yX7_isForGood cX7_isForGood 1 (some .boolean) 0 0 j_ei 0 [(0, .inl (l0))] [] M (xX7_isForGood  l0 M) := by
  unfold xX7_isForGood
  refine K_iload_n (q := 1) 0 dX7_isForGood_0 rfl rfl rfl ?_
  refine K_bipush (q := 3) (v := nI 32) dX7_isForGood_1 rfl rfl ?_
  refine K_iand (q := 4) dX7_isForGood_3 rfl ?_
  refine K_if_eq (q := 7) (tgt := 11) dX7_isForGood_4 rfl ?_ rfl ?_
  · refine K_iconst (q := 12) (v := nI 0) dX7_isForGood_11 rfl rfl ?_
    exact J_zret dX7_isForGood_12 (by decide)
  · refine K_iconst (q := 8) (v := nI 1) dX7_isForGood_7 rfl rfl ?_
    refine J_goto (tgt := 12) dX7_isForGood_8 rfl ?_
    exact J_zret dX7_isForGood_12 (by decide)
theorem dX7_value_0 : decode cX7_value 0 = .ok (.iload_n 0, 1) := by decide +kernel
theorem dX7_value_1 : decode cX7_value 1 = .ok (.bipush 6, 2) := by decide +kernel
theorem dX7_value_3 : decode cX7_value 3 = .ok (.iushr, 1) := by decide +kernel
theorem dX7_value_4 : decode cX7_value 4 = .ok (.ireturn, 1) := by decide +kernel
def xX7_value  (l0 : Int32) (M : j_M) : Option (Int32 × j_M) := some (us l0 (nI 6), M)
set_option maxRecDepth 20000 in
set_option maxHeartbeats 2000000 in
theorem tX7_value  (l0 : Int32) (M : j_M) : J (ρ := Int32 × j_M) yX7_value cX7_value 1 (some .int) 0 0 j_ei 0 [(0, .inl (l0))] [] M (xX7_value  l0 M) := by
  unfold xX7_value
  refine K_iload_n (q := 1) 0 dX7_value_0 rfl rfl rfl ?_
  refine K_bipush (q := 3) (v := nI 6) dX7_value_1 rfl rfl ?_
  refine K_iushr (q := 4) dX7_value_3 rfl ?_
  exact J_iret dX7_value_4
theorem dX4_cargo_0 : decode cX4_cargo 0 = .ok (.iload_n 0, 1) := by decide +kernel
theorem dX4_cargo_1 : decode cX4_cargo 1 = .ok (.bipush 12, 2) := by decide +kernel
theorem dX4_cargo_3 : decode cX4_cargo 3 = .ok (.iushr, 1) := by decide +kernel
theorem dX4_cargo_4 : decode cX4_cargo 4 = .ok (.ireturn, 1) := by decide +kernel
def xX4_cargo  (l0 : Int32) (M : j_M) : Option (Int32 × j_M) := some (us l0 (nI 12), M)
set_option maxRecDepth 20000 in
set_option maxHeartbeats 2000000 in
theorem tX4_cargo  (l0 : Int32) (M : j_M) : J (ρ := Int32 × j_M) yX4_cargo cX4_cargo 1 (some .int) 0 0 j_ei 0 [(0, .inl (l0))] [] M (xX4_cargo  l0 M) := by
  unfold xX4_cargo
  refine K_iload_n (q := 1) 0 dX4_cargo_0 rfl rfl rfl ?_
  refine K_bipush (q := 3) (v := nI 12) dX4_cargo_1 rfl rfl ?_
  refine K_iushr (q := 4) dX4_cargo_3 rfl ?_
  exact J_iret dX4_cargo_4
theorem dX4_from_0 : decode cX4_from 0 = .ok (.iload_n 0, 1) := by decide +kernel
theorem dX4_from_1 : decode cX4_from 1 = .ok (.bipush 7, 2) := by decide +kernel
theorem dX4_from_3 : decode cX4_from 3 = .ok (.iand, 1) := by decide +kernel
theorem dX4_from_4 : decode cX4_from 4 = .ok (.ireturn, 1) := by decide +kernel
def xX4_from  (l0 : Int32) (M : j_M) : Option (Int32 × j_M) := some (l0 &&& (nI 7), M)
set_option maxRecDepth 20000 in
set_option maxHeartbeats 2000000 in
theorem tX4_from  (l0 : Int32) (M : j_M) : J (ρ := Int32 × j_M) yX4_from cX4_from 1 (some .int) 0 0 j_ei 0 [(0, .inl (l0))] [] M (xX4_from  l0 M) := by
  unfold xX4_from
  refine K_iload_n (q := 1) 0 dX4_from_0 rfl rfl rfl ?_
  refine K_bipush (q := 3) (v := nI 7) dX4_from_1 rfl rfl ?_
  refine K_iand (q := 4) dX4_from_3 rfl ?_
  exact J_iret dX4_from_4
theorem dX4_line_0 : decode cX4_line 0 = .ok (.iload_n 0, 1) := by decide +kernel
theorem dX4_line_1 : decode cX4_line 1 = .ok (.bipush 9, 2) := by decide +kernel
theorem dX4_line_3 : decode cX4_line 3 = .ok (.iushr, 1) := by decide +kernel
theorem dX4_line_4 : decode cX4_line 4 = .ok (.bipush 7, 2) := by decide +kernel
theorem dX4_line_6 : decode cX4_line 6 = .ok (.iand, 1) := by decide +kernel
theorem dX4_line_7 : decode cX4_line 7 = .ok (.ireturn, 1) := by decide +kernel
def xX4_line  (l0 : Int32) (M : j_M) : Option (Int32 × j_M) := some ((us l0 (nI 9)) &&& (nI 7), M)
set_option maxRecDepth 20000 in
set_option maxHeartbeats 2000000 in
theorem tX4_line  (l0 : Int32) (M : j_M) : J (ρ := Int32 × j_M) yX4_line cX4_line 1 (some .int) 0 0 j_ei 0 [(0, .inl (l0))] [] M (xX4_line  l0 M) := by
  unfold xX4_line
  refine K_iload_n (q := 1) 0 dX4_line_0 rfl rfl rfl ?_
  refine K_bipush (q := 3) (v := nI 9) dX4_line_1 rfl rfl ?_
  refine K_iushr (q := 4) dX4_line_3 rfl ?_
  refine K_bipush (q := 6) (v := nI 7) dX4_line_4 rfl rfl ?_
  refine K_iand (q := 7) dX4_line_6 rfl ?_
  exact J_iret dX4_line_7
theorem dX4_to_0 : decode cX4_to 0 = .ok (.iload_n 0, 1) := by decide +kernel
theorem dX4_to_1 : decode cX4_to 1 = .ok (.iconst 3, 1) := by decide +kernel
theorem dX4_to_2 : decode cX4_to 2 = .ok (.iushr, 1) := by decide +kernel
theorem dX4_to_3 : decode cX4_to 3 = .ok (.bipush 7, 2) := by decide +kernel
theorem dX4_to_5 : decode cX4_to 5 = .ok (.iand, 1) := by decide +kernel
theorem dX4_to_6 : decode cX4_to 6 = .ok (.ireturn, 1) := by decide +kernel
def xX4_to  (l0 : Int32) (M : j_M) : Option (Int32 × j_M) := some ((us l0 (nI 3)) &&& (nI 7), M)
set_option maxRecDepth 20000 in
set_option maxHeartbeats 2000000 in
theorem tX4_to  (l0 : Int32) (M : j_M) : J (ρ := Int32 × j_M) yX4_to cX4_to 1 (some .int) 0 0 j_ei 0 [(0, .inl (l0))] [] M (xX4_to  l0 M) := by
  unfold xX4_to
  refine K_iload_n (q := 1) 0 dX4_to_0 rfl rfl rfl ?_
  refine K_iconst (q := 2) (v := nI 3) dX4_to_1 rfl rfl ?_
  refine K_iushr (q := 3) dX4_to_2 rfl ?_
  refine K_bipush (q := 5) (v := nI 7) dX4_to_3 rfl rfl ?_
  refine K_iand (q := 6) dX4_to_5 rfl ?_
  exact J_iret dX4_to_6
theorem dX2_isMarked_0 : decode cX2_isMarked 0 = .ok (.iload_n 0, 1) := by decide +kernel
theorem dX2_isMarked_1 : decode cX2_isMarked 1 = .ok (.iconst 2, 1) := by decide +kernel
theorem dX2_isMarked_2 : decode cX2_isMarked 2 = .ok (.iand, 1) := by decide +kernel
theorem dX2_isMarked_3 : decode cX2_isMarked 3 = .ok (.ifCond .eq 7, 3) := by decide +kernel
theorem dX2_isMarked_6 : decode cX2_isMarked 6 = .ok (.iconst 1, 1) := by decide +kernel
theorem dX2_isMarked_7 : decode cX2_isMarked 7 = .ok (.goto 4, 3) := by decide +kernel
theorem dX2_isMarked_10 : decode cX2_isMarked 10 = .ok (.iconst 0, 1) := by decide +kernel
theorem dX2_isMarked_11 : decode cX2_isMarked 11 = .ok (.ireturn, 1) := by decide +kernel
def xX2_isMarked  (l0 : Int32) (M : j_M) : Option (Int32 × j_M) := (if l0 &&& (nI 2) = (0 : Int32) then some ((nI 0), M) else some ((nI 1), M))
set_option maxRecDepth 20000 in
set_option maxHeartbeats 2000000 in
theorem tX2_isMarked  (l0 : Int32) (M : j_M) : J (ρ := Int32 × j_M) yX2_isMarked cX2_isMarked 1 (some .boolean) 0 0 j_ei 0 [(0, .inl (l0))] [] M (xX2_isMarked  l0 M) := by
  unfold xX2_isMarked
  refine K_iload_n (q := 1) 0 dX2_isMarked_0 rfl rfl rfl ?_
  refine K_iconst (q := 2) (v := nI 2) dX2_isMarked_1 rfl rfl ?_
  refine K_iand (q := 3) dX2_isMarked_2 rfl ?_
  refine K_if_eq (q := 6) (tgt := 10) dX2_isMarked_3 rfl ?_ rfl ?_
  · refine K_iconst (q := 11) (v := nI 0) dX2_isMarked_10 rfl rfl ?_
    exact J_zret dX2_isMarked_11 (by decide)
  · refine K_iconst (q := 7) (v := nI 1) dX2_isMarked_6 rfl rfl ?_
    refine J_goto (tgt := 11) dX2_isMarked_7 rfl ?_
    exact J_zret dX2_isMarked_11 (by decide)
theorem dX0_first_0 : decode cX0_first 0 = .ok (.iload_n 0, 1) := by decide +kernel
theorem dX0_first_1 : decode cX0_first 1 = .ok (.iconst 4, 1) := by decide +kernel
theorem dX0_first_2 : decode cX0_first 2 = .ok (.iushr, 1) := by decide +kernel
theorem dX0_first_3 : decode cX0_first 3 = .ok (.bipush 127, 2) := by decide +kernel
theorem dX0_first_5 : decode cX0_first 5 = .ok (.iand, 1) := by decide +kernel
theorem dX0_first_6 : decode cX0_first 6 = .ok (.ireturn, 1) := by decide +kernel
def xX0_first  (l0 : Int32) (M : j_M) : Option (Int32 × j_M) := some ((us l0 (nI 4)) &&& (nI 127), M)
set_option maxRecDepth 20000 in
set_option maxHeartbeats 2000000 in
theorem tX0_first  (l0 : Int32) (M : j_M) : J (ρ := Int32 × j_M) yX0_first cX0_first 1 (some .int) 0 0 j_ei 0 [(0, .inl (l0))] [] M (xX0_first  l0 M) := by
  unfold xX0_first
  refine K_iload_n (q := 1) 0 dX0_first_0 rfl rfl rfl ?_
  refine K_iconst (q := 2) (v := nI 4) dX0_first_1 rfl rfl ?_
  refine K_iushr (q := 3) dX0_first_2 rfl ?_
  refine K_bipush (q := 5) (v := nI 127) dX0_first_3 rfl rfl ?_
  refine K_iand (q := 6) dX0_first_5 rfl ?_
  exact J_iret dX0_first_6
theorem dX0_keyword_0 : decode cX0_keyword 0 = .ok (.iload_n 0, 1) := by decide +kernel
theorem dX0_keyword_1 : decode cX0_keyword 1 = .ok (.bipush 15, 2) := by decide +kernel
theorem dX0_keyword_3 : decode cX0_keyword 3 = .ok (.iand, 1) := by decide +kernel
theorem dX0_keyword_4 : decode cX0_keyword 4 = .ok (.ireturn, 1) := by decide +kernel
def xX0_keyword  (l0 : Int32) (M : j_M) : Option (Int32 × j_M) := some (l0 &&& (nI 15), M)
set_option maxRecDepth 20000 in
set_option maxHeartbeats 2000000 in
theorem tX0_keyword  (l0 : Int32) (M : j_M) : J (ρ := Int32 × j_M) yX0_keyword cX0_keyword 1 (some .int) 0 0 j_ei 0 [(0, .inl (l0))] [] M (xX0_keyword  l0 M) := by
  unfold xX0_keyword
  refine K_iload_n (q := 1) 0 dX0_keyword_0 rfl rfl rfl ?_
  refine K_bipush (q := 3) (v := nI 15) dX0_keyword_1 rfl rfl ?_
  refine K_iand (q := 4) dX0_keyword_3 rfl ?_
  exact J_iret dX0_keyword_4
theorem dX0_second_0 : decode cX0_second 0 = .ok (.iload_n 0, 1) := by decide +kernel
theorem dX0_second_1 : decode cX0_second 1 = .ok (.bipush 11, 2) := by decide +kernel
theorem dX0_second_3 : decode cX0_second 3 = .ok (.iushr, 1) := by decide +kernel
theorem dX0_second_4 : decode cX0_second 4 = .ok (.sipush 16383, 3) := by decide +kernel
theorem dX0_second_7 : decode cX0_second 7 = .ok (.iand, 1) := by decide +kernel
theorem dX0_second_8 : decode cX0_second 8 = .ok (.ireturn, 1) := by decide +kernel
def xX0_second  (l0 : Int32) (M : j_M) : Option (Int32 × j_M) := some ((us l0 (nI 11)) &&& (nI 16383), M)
set_option maxRecDepth 20000 in
set_option maxHeartbeats 2000000 in
theorem tX0_second  (l0 : Int32) (M : j_M) : J (ρ := Int32 × j_M) yX0_second cX0_second 1 (some .int) 0 0 j_ei 0 [(0, .inl (l0))] [] M (xX0_second  l0 M) := by
  unfold xX0_second
  refine K_iload_n (q := 1) 0 dX0_second_0 rfl rfl rfl ?_
  refine K_bipush (q := 3) (v := nI 11) dX0_second_1 rfl rfl ?_
  refine K_iushr (q := 4) dX0_second_3 rfl ?_
  refine K_sipush (q := 7) (v := nI 16383) dX0_second_4 rfl rfl ?_
  refine K_iand (q := 8) dX0_second_7 rfl ?_
  exact J_iret dX0_second_8
theorem dX4_inside_0 : decode cX4_inside 0 = .ok (.iload_n 0, 1) := by decide +kernel
theorem dX4_inside_1 : decode cX4_inside 1 = .ok (.bipush 12, 2) := by decide +kernel
theorem dX4_inside_3 : decode cX4_inside 3 = .ok (.iushr, 1) := by decide +kernel
theorem dX4_inside_4 : decode cX4_inside 4 = .ok (.istore_n 2, 1) := by decide +kernel
theorem dX4_inside_5 : decode cX4_inside 5 = .ok (.iload_n 0, 1) := by decide +kernel
theorem dX4_inside_6 : decode cX4_inside 6 = .ok (.invokestatic 9, 3) := by decide +kernel
theorem dX4_inside_9 : decode cX4_inside 9 = .ok (.istore_n 3, 1) := by decide +kernel
theorem dX4_inside_10 : decode cX4_inside 10 = .ok (.iload_n 3, 1) := by decide +kernel
theorem dX4_inside_11 : decode cX4_inside 11 = .ok (.iconst 3, 1) := by decide +kernel
theorem dX4_inside_12 : decode cX4_inside 12 = .ok (.if_icmp .ne 7, 3) := by decide +kernel
theorem dX4_inside_15 : decode cX4_inside 15 = .ok (.iconst 1, 1) := by decide +kernel
theorem dX4_inside_16 : decode cX4_inside 16 = .ok (.goto 4, 3) := by decide +kernel
theorem dX4_inside_19 : decode cX4_inside 19 = .ok (.iconst 0, 1) := by decide +kernel
theorem dX4_inside_20 : decode cX4_inside 20 = .ok (.istore 4, 2) := by decide +kernel
theorem dX4_inside_22 : decode cX4_inside 22 = .ok (.iload_n 3, 1) := by decide +kernel
theorem dX4_inside_23 : decode cX4_inside 23 = .ok (.iconst 4, 1) := by decide +kernel
theorem dX4_inside_24 : decode cX4_inside 24 = .ok (.if_icmp .eq 8, 3) := by decide +kernel
theorem dX4_inside_27 : decode cX4_inside 27 = .ok (.iload_n 3, 1) := by decide +kernel
theorem dX4_inside_28 : decode cX4_inside 28 = .ok (.iconst 5, 1) := by decide +kernel
theorem dX4_inside_29 : decode cX4_inside 29 = .ok (.if_icmp .ne 7, 3) := by decide +kernel
theorem dX4_inside_32 : decode cX4_inside 32 = .ok (.iconst 1, 1) := by decide +kernel
theorem dX4_inside_33 : decode cX4_inside 33 = .ok (.goto 4, 3) := by decide +kernel
theorem dX4_inside_36 : decode cX4_inside 36 = .ok (.iconst 0, 1) := by decide +kernel
theorem dX4_inside_37 : decode cX4_inside 37 = .ok (.istore 5, 2) := by decide +kernel
theorem dX4_inside_39 : decode cX4_inside 39 = .ok (.iload_n 1, 1) := by decide +kernel
theorem dX4_inside_40 : decode cX4_inside 40 = .ok (.tableswitch 92 4 7 #[32, 46, 64, 79], 32) := by decide +kernel
theorem dX4_inside_72 : decode cX4_inside 72 = .ok (.iload 4, 2) := by decide +kernel
theorem dX4_inside_74 : decode cX4_inside 74 = .ok (.ifCond .eq 10, 3) := by decide +kernel
theorem dX4_inside_77 : decode cX4_inside 77 = .ok (.iload_n 2, 1) := by decide +kernel
theorem dX4_inside_78 : decode cX4_inside 78 = .ok (.bipush 15, 2) := by decide +kernel
theorem dX4_inside_80 : decode cX4_inside 80 = .ok (.iand, 1) := by decide +kernel
theorem dX4_inside_81 : decode cX4_inside 81 = .ok (.goto 4, 3) := by decide +kernel
theorem dX4_inside_84 : decode cX4_inside 84 = .ok (.iconst 0, 1) := by decide +kernel
theorem dX4_inside_85 : decode cX4_inside 85 = .ok (.ireturn, 1) := by decide +kernel
theorem dX4_inside_86 : decode cX4_inside 86 = .ok (.iload 4, 2) := by decide +kernel
theorem dX4_inside_88 : decode cX4_inside 88 = .ok (.ifCond .eq 14, 3) := by decide +kernel
theorem dX4_inside_91 : decode cX4_inside 91 = .ok (.iload_n 2, 1) := by decide +kernel
theorem dX4_inside_92 : decode cX4_inside 92 = .ok (.bipush 16, 2) := by decide +kernel
theorem dX4_inside_94 : decode cX4_inside 94 = .ok (.iand, 1) := by decide +kernel
theorem dX4_inside_95 : decode cX4_inside 95 = .ok (.ifCond .eq 7, 3) := by decide +kernel
theorem dX4_inside_98 : decode cX4_inside 98 = .ok (.iconst 1, 1) := by decide +kernel
theorem dX4_inside_99 : decode cX4_inside 99 = .ok (.goto 4, 3) := by decide +kernel
theorem dX4_inside_102 : decode cX4_inside 102 = .ok (.iconst 0, 1) := by decide +kernel
theorem dX4_inside_103 : decode cX4_inside 103 = .ok (.ireturn, 1) := by decide +kernel
theorem dX4_inside_104 : decode cX4_inside 104 = .ok (.iload 4, 2) := by decide +kernel
theorem dX4_inside_106 : decode cX4_inside 106 = .ok (.ifCond .eq 11, 3) := by decide +kernel
theorem dX4_inside_109 : decode cX4_inside 109 = .ok (.iload_n 2, 1) := by decide +kernel
theorem dX4_inside_110 : decode cX4_inside 110 = .ok (.iconst 5, 1) := by decide +kernel
theorem dX4_inside_111 : decode cX4_inside 111 = .ok (.iushr, 1) := by decide +kernel
theorem dX4_inside_112 : decode cX4_inside 112 = .ok (.iconst 1, 1) := by decide +kernel
theorem dX4_inside_113 : decode cX4_inside 113 = .ok (.isub, 1) := by decide +kernel
theorem dX4_inside_114 : decode cX4_inside 114 = .ok (.goto 4, 3) := by decide +kernel
theorem dX4_inside_117 : decode cX4_inside 117 = .ok (.iconst (-1), 1) := by decide +kernel
theorem dX4_inside_118 : decode cX4_inside 118 = .ok (.ireturn, 1) := by decide +kernel
theorem dX4_inside_119 : decode cX4_inside 119 = .ok (.iload 5, 2) := by decide +kernel
theorem dX4_inside_121 : decode cX4_inside 121 = .ok (.ifCond .eq 9, 3) := by decide +kernel
theorem dX4_inside_124 : decode cX4_inside 124 = .ok (.iload_n 2, 1) := by decide +kernel
theorem dX4_inside_125 : decode cX4_inside 125 = .ok (.iconst 2, 1) := by decide +kernel
theorem dX4_inside_126 : decode cX4_inside 126 = .ok (.iushr, 1) := by decide +kernel
theorem dX4_inside_127 : decode cX4_inside 127 = .ok (.goto 4, 3) := by decide +kernel
theorem dX4_inside_130 : decode cX4_inside 130 = .ok (.iconst 0, 1) := by decide +kernel
theorem dX4_inside_131 : decode cX4_inside 131 = .ok (.ireturn, 1) := by decide +kernel
theorem dX4_inside_132 : decode cX4_inside 132 = .ok (.iload_n 3, 1) := by decide +kernel
theorem dX4_inside_133 : decode cX4_inside 133 = .ok (.iconst 4, 1) := by decide +kernel
theorem dX4_inside_134 : decode cX4_inside 134 = .ok (.if_icmp .ne 9, 3) := by decide +kernel
theorem dX4_inside_137 : decode cX4_inside 137 = .ok (.iload_n 2, 1) := by decide +kernel
theorem dX4_inside_138 : decode cX4_inside 138 = .ok (.iconst 3, 1) := by decide +kernel
theorem dX4_inside_139 : decode cX4_inside 139 = .ok (.iand, 1) := by decide +kernel
theorem dX4_inside_140 : decode cX4_inside 140 = .ok (.goto 4, 3) := by decide +kernel
theorem dX4_inside_143 : decode cX4_inside 143 = .ok (.iconst 0, 1) := by decide +kernel
theorem dX4_inside_144 : decode cX4_inside 144 = .ok (.ireturn, 1) := by decide +kernel
def xX4_inside_37   (l1 : Int32) (l2 : Int32) (l3 : Int32) (l4 : Int32) (s0 : Int32) (M : j_M) : Option (Int32 × j_M) := osw l1 [((nI 4), (if l4 = (0 : Int32) then some ((nI 0), M) else some (l2 &&& (nI 15), M))), ((nI 5), (if l4 = (0 : Int32) then some ((nI 0), M) else (if l2 &&& (nI 16) = (0 : Int32) then some ((nI 0), M) else some ((nI 1), M)))), ((nI 6), (if l4 = (0 : Int32) then some ((-1 : Int32), M) else some ((us l2 (nI 5)) - (nI 1), M))), ((nI 7), (if s0 = (0 : Int32) then some ((nI 0), M) else some (us l2 (nI 2), M)))] ((if l3 = (nI 4) then some (l2 &&& (nI 3), M) else some ((nI 0), M)))
set_option maxRecDepth 20000 in
set_option maxHeartbeats 2000000 in
theorem tX4_inside_37    (l1 : Int32) (l2 : Int32) (l3 : Int32) (l4 : Int32) (s0 : Int32) (M : j_M) : J (ρ := Int32 × j_M) yX4_inside cX4_inside 6 (some .int) 1 20 j_ei 37 [(1, .inl (l1)), (2, .inl (l2)), (3, .inl (l3)), (4, .inl (l4))] [.inl (s0)] M (xX4_inside_37  l1 l2 l3 l4 s0 M) := by
  unfold xX4_inside_37
  refine K_istore (q := 39) (ll' := [(5, .inl (s0)), (1, .inl (l1)), (2, .inl (l2)), (3, .inl (l3)), (4, .inl (l4))]) dX4_inside_37 (by decide) rfl rfl ?_
  refine K_iload_n (q := 40) 1 dX4_inside_39 rfl rfl rfl ?_
  refine K_tsw (dt := 132) [72, 86, 104, 119] dX4_inside_40 rfl rfl rfl rfl ⟨?_, ?_, ?_, ?_, trivial⟩ ?_
  · refine K_iload (q := 74) 4 dX4_inside_72 rfl rfl ?_
    refine K_if_eq (q := 77) (tgt := 84) dX4_inside_74 rfl ?_ rfl ?_
    · refine K_iconst (q := 85) (v := nI 0) dX4_inside_84 rfl rfl ?_
      exact J_iret dX4_inside_85
    · refine K_iload_n (q := 78) 2 dX4_inside_77 rfl rfl rfl ?_
      refine K_bipush (q := 80) (v := nI 15) dX4_inside_78 rfl rfl ?_
      refine K_iand (q := 81) dX4_inside_80 rfl ?_
      refine J_goto (tgt := 85) dX4_inside_81 rfl ?_
      exact J_iret dX4_inside_85
  · refine K_iload (q := 88) 4 dX4_inside_86 rfl rfl ?_
    refine K_if_eq (q := 91) (tgt := 102) dX4_inside_88 rfl ?_ rfl ?_
    · refine K_iconst (q := 103) (v := nI 0) dX4_inside_102 rfl rfl ?_
      exact J_iret dX4_inside_103
    · refine K_iload_n (q := 92) 2 dX4_inside_91 rfl rfl rfl ?_
      refine K_bipush (q := 94) (v := nI 16) dX4_inside_92 rfl rfl ?_
      refine K_iand (q := 95) dX4_inside_94 rfl ?_
      refine K_if_eq (q := 98) (tgt := 102) dX4_inside_95 rfl ?_ rfl ?_
      · refine K_iconst (q := 103) (v := nI 0) dX4_inside_102 rfl rfl ?_
        exact J_iret dX4_inside_103
      · refine K_iconst (q := 99) (v := nI 1) dX4_inside_98 rfl rfl ?_
        refine J_goto (tgt := 103) dX4_inside_99 rfl ?_
        exact J_iret dX4_inside_103
  · refine K_iload (q := 106) 4 dX4_inside_104 rfl rfl ?_
    refine K_if_eq (q := 109) (tgt := 117) dX4_inside_106 rfl ?_ rfl ?_
    · refine K_iconst (q := 118) (v := -1) dX4_inside_117 rfl rfl ?_
      exact J_iret dX4_inside_118
    · refine K_iload_n (q := 110) 2 dX4_inside_109 rfl rfl rfl ?_
      refine K_iconst (q := 111) (v := nI 5) dX4_inside_110 rfl rfl ?_
      refine K_iushr (q := 112) dX4_inside_111 rfl ?_
      refine K_iconst (q := 113) (v := nI 1) dX4_inside_112 rfl rfl ?_
      refine K_isub (q := 114) dX4_inside_113 rfl ?_
      refine J_goto (tgt := 118) dX4_inside_114 rfl ?_
      exact J_iret dX4_inside_118
  · refine K_iload (q := 121) 0 dX4_inside_119 rfl rfl ?_
    refine K_if_eq (q := 124) (tgt := 130) dX4_inside_121 rfl ?_ rfl ?_
    · refine K_iconst (q := 131) (v := nI 0) dX4_inside_130 rfl rfl ?_
      exact J_iret dX4_inside_131
    · refine K_iload_n (q := 125) 2 dX4_inside_124 rfl rfl rfl ?_
      refine K_iconst (q := 126) (v := nI 2) dX4_inside_125 rfl rfl ?_
      refine K_iushr (q := 127) dX4_inside_126 rfl ?_
      refine J_goto (tgt := 131) dX4_inside_127 rfl ?_
      exact J_iret dX4_inside_131
  · refine K_iload_n (q := 133) 3 dX4_inside_132 rfl rfl rfl ?_
    refine K_iconst (q := 134) (v := nI 4) dX4_inside_133 rfl rfl ?_
    refine K_icmp_ne (q := 137) (tgt := 143) dX4_inside_134 rfl ?_ rfl ?_
    · refine K_iconst (q := 144) (v := nI 0) dX4_inside_143 rfl rfl ?_
      exact J_iret dX4_inside_144
    · refine K_iload_n (q := 138) 2 dX4_inside_137 rfl rfl rfl ?_
      refine K_iconst (q := 139) (v := nI 3) dX4_inside_138 rfl rfl ?_
      refine K_iand (q := 140) dX4_inside_139 rfl ?_
      refine J_goto (tgt := 144) dX4_inside_140 rfl ?_
      exact J_iret dX4_inside_144
def xX4_inside_32   (l1 : Int32) (l2 : Int32) (l3 : Int32) (l4 : Int32) (M : j_M) : Option (Int32 × j_M) := xX4_inside_37  l1 l2 l3 l4 (nI 1) M
set_option maxRecDepth 20000 in
set_option maxHeartbeats 2000000 in
theorem tX4_inside_32    (l1 : Int32) (l2 : Int32) (l3 : Int32) (l4 : Int32) (M : j_M) : J (ρ := Int32 × j_M) yX4_inside cX4_inside 6 (some .int) 1 20 j_ei 32 [(1, .inl (l1)), (2, .inl (l2)), (3, .inl (l3)), (4, .inl (l4))] [] M (xX4_inside_32  l1 l2 l3 l4 M) := by
  unfold xX4_inside_32
  refine K_iconst (q := 33) (v := nI 1) dX4_inside_32 rfl rfl ?_
  refine J_goto (tgt := 37) dX4_inside_33 rfl ?_
  exact J_sub [0, 1, 2, 3] (tX4_inside_37  l1 l2 l3 l4 (nI 1) M) rfl
def xX4_inside_20   (l1 : Int32) (l2 : Int32) (l3 : Int32) (s0 : Int32) (M : j_M) : Option (Int32 × j_M) := (if l3 = (nI 4) then xX4_inside_32  l1 l2 l3 s0 M else (if l3 = (nI 5) then xX4_inside_32  l1 l2 l3 s0 M else xX4_inside_37  l1 l2 l3 s0 (nI 0) M))
set_option maxRecDepth 20000 in
set_option maxHeartbeats 2000000 in
theorem tX4_inside_20    (l1 : Int32) (l2 : Int32) (l3 : Int32) (s0 : Int32) (M : j_M) : J (ρ := Int32 × j_M) yX4_inside cX4_inside 6 (some .int) 1 20 j_ei 20 [(1, .inl (l1)), (2, .inl (l2)), (3, .inl (l3))] [.inl (s0)] M (xX4_inside_20  l1 l2 l3 s0 M) := by
  unfold xX4_inside_20
  refine K_istore (q := 22) (ll' := [(4, .inl (s0)), (1, .inl (l1)), (2, .inl (l2)), (3, .inl (l3))]) dX4_inside_20 (by decide) rfl rfl ?_
  refine K_iload_n (q := 23) 3 dX4_inside_22 rfl rfl rfl ?_
  refine K_iconst (q := 24) (v := nI 4) dX4_inside_23 rfl rfl ?_
  refine K_icmp_eq (q := 27) (tgt := 32) dX4_inside_24 rfl ?_ rfl ?_
  · exact J_sub [1, 2, 3, 0] (tX4_inside_32  l1 l2 l3 s0 M) rfl
  · refine K_iload_n (q := 28) 3 dX4_inside_27 rfl rfl rfl ?_
    refine K_iconst (q := 29) (v := nI 5) dX4_inside_28 rfl rfl ?_
    refine K_icmp_ne (q := 32) (tgt := 36) dX4_inside_29 rfl ?_ rfl ?_
    · refine K_iconst (q := 37) (v := nI 0) dX4_inside_36 rfl rfl ?_
      exact J_sub [1, 2, 3, 0] (tX4_inside_37  l1 l2 l3 s0 (nI 0) M) rfl
    · exact J_sub [1, 2, 3, 0] (tX4_inside_32  l1 l2 l3 s0 M) rfl
def xX4_inside  (l0 : Int32) (l1 : Int32) (M : j_M) : Option (Int32 × j_M) := obi (xX4_kind l0 M) fun v2 M1 => (if v2 = (nI 3) then xX4_inside_20  l1 (us l0 (nI 12)) v2 (nI 1) M1 else xX4_inside_20  l1 (us l0 (nI 12)) v2 (nI 0) M1)
set_option maxRecDepth 20000 in
set_option maxHeartbeats 2000000 in
theorem tX4_inside  (l0 : Int32) (l1 : Int32) (M : j_M) : J (ρ := Int32 × j_M) yX4_inside cX4_inside 6 (some .int) 1 20 j_ei 0 [(0, .inl (l0)), (1, .inl (l1))] [] M (xX4_inside  l0 l1 M) := by
  unfold xX4_inside
  refine K_iload_n (q := 1) 0 dX4_inside_0 rfl rfl rfl ?_
  refine K_bipush (q := 3) (v := nI 12) dX4_inside_1 rfl rfl ?_
  refine K_iushr (q := 4) dX4_inside_3 rfl ?_
  refine K_istore_n (q := 5) (ll' := [(2, .inl (us l0 (nI 12))), (0, .inl (l0)), (1, .inl (l1))]) dX4_inside_4 rfl (by decide) rfl rfl ?_
  refine K_iload_n (q := 6) 1 dX4_inside_5 rfl rfl rfl ?_
  refine K_csi (q := 9) [.inl (l0)] dX4_inside_6 cb_X4_kind cvRX4_9 rfl (Nat.le_of_ble_eq_true rfl) ⟨by decide, by decide⟩ (Nat.le_of_ble_eq_true rfl) rfl (tX4_kind l0 M) rfl (fun v2 M1 => ?_)
  refine K_istore_n (q := 10) (ll' := [(3, .inl (v2)), (2, .inl (us l0 (nI 12))), (0, .inl (l0)), (1, .inl (l1))]) dX4_inside_9 rfl (by decide) rfl rfl ?_
  refine K_iload_n (q := 11) 0 dX4_inside_10 rfl rfl rfl ?_
  refine K_iconst (q := 12) (v := nI 3) dX4_inside_11 rfl rfl ?_
  refine K_icmp_ne (q := 15) (tgt := 19) dX4_inside_12 rfl ?_ rfl ?_
  · refine K_iconst (q := 20) (v := nI 0) dX4_inside_19 rfl rfl ?_
    exact J_sub [3, 1, 0] (tX4_inside_20  l1 (us l0 (nI 12)) v2 (nI 0) M1) rfl
  · refine K_iconst (q := 16) (v := nI 1) dX4_inside_15 rfl rfl ?_
    refine J_goto (tgt := 20) dX4_inside_16 rfl ?_
    exact J_sub [3, 1, 0] (tX4_inside_20  l1 (us l0 (nI 12)) v2 (nI 1) M1) rfl
theorem dX0_cpu_0 : decode cX0_cpu 0 = .ok (.iload_n 0, 1) := by decide +kernel
theorem dX0_cpu_1 : decode cX0_cpu 1 = .ok (.bipush 25, 2) := by decide +kernel
theorem dX0_cpu_3 : decode cX0_cpu 3 = .ok (.iushr, 1) := by decide +kernel
theorem dX0_cpu_4 : decode cX0_cpu 4 = .ok (.ireturn, 1) := by decide +kernel
def xX0_cpu  (l0 : Int32) (M : j_M) : Option (Int32 × j_M) := some (us l0 (nI 25), M)
set_option maxRecDepth 20000 in
set_option maxHeartbeats 2000000 in
theorem tX0_cpu  (l0 : Int32) (M : j_M) : J (ρ := Int32 × j_M) yX0_cpu cX0_cpu 1 (some .int) 0 0 j_ei 0 [(0, .inl (l0))] [] M (xX0_cpu  l0 M) := by
  unfold xX0_cpu
  refine K_iload_n (q := 1) 0 dX0_cpu_0 rfl rfl rfl ?_
  refine K_bipush (q := 3) (v := nI 25) dX0_cpu_1 rfl rfl ?_
  refine K_iushr (q := 4) dX0_cpu_3 rfl ?_
  exact J_iret dX0_cpu_4
theorem dX2_isActive_0 : decode cX2_isActive 0 = .ok (.iload_n 0, 1) := by decide +kernel
theorem dX2_isActive_1 : decode cX2_isActive 1 = .ok (.iconst 1, 1) := by decide +kernel
theorem dX2_isActive_2 : decode cX2_isActive 2 = .ok (.iand, 1) := by decide +kernel
theorem dX2_isActive_3 : decode cX2_isActive 3 = .ok (.ifCond .eq 7, 3) := by decide +kernel
theorem dX2_isActive_6 : decode cX2_isActive 6 = .ok (.iconst 1, 1) := by decide +kernel
theorem dX2_isActive_7 : decode cX2_isActive 7 = .ok (.goto 4, 3) := by decide +kernel
theorem dX2_isActive_10 : decode cX2_isActive 10 = .ok (.iconst 0, 1) := by decide +kernel
theorem dX2_isActive_11 : decode cX2_isActive 11 = .ok (.ireturn, 1) := by decide +kernel
def xX2_isActive  (l0 : Int32) (M : j_M) : Option (Int32 × j_M) := (if l0 &&& (nI 1) = (0 : Int32) then some ((nI 0), M) else some ((nI 1), M))
set_option maxRecDepth 20000 in
set_option maxHeartbeats 2000000 in
theorem tX2_isActive  (l0 : Int32) (M : j_M) : J (ρ := Int32 × j_M) yX2_isActive cX2_isActive 1 (some .boolean) 0 0 j_ei 0 [(0, .inl (l0))] [] M (xX2_isActive  l0 M) := by
  unfold xX2_isActive
  refine K_iload_n (q := 1) 0 dX2_isActive_0 rfl rfl rfl ?_
  refine K_iconst (q := 2) (v := nI 1) dX2_isActive_1 rfl rfl ?_
  refine K_iand (q := 3) dX2_isActive_2 rfl ?_
  refine K_if_eq (q := 6) (tgt := 10) dX2_isActive_3 rfl ?_ rfl ?_
  · refine K_iconst (q := 11) (v := nI 0) dX2_isActive_10 rfl rfl ?_
    exact J_zret dX2_isActive_11 (by decide)
  · refine K_iconst (q := 7) (v := nI 1) dX2_isActive_6 rfl rfl ?_
    refine J_goto (tgt := 11) dX2_isActive_7 rfl ?_
    exact J_zret dX2_isActive_11 (by decide)
theorem dX2_line_0 : decode cX2_line 0 = .ok (.iload_n 0, 1) := by decide +kernel
theorem dX2_line_1 : decode cX2_line 1 = .ok (.iconst 4, 1) := by decide +kernel
theorem dX2_line_2 : decode cX2_line 2 = .ok (.iushr, 1) := by decide +kernel
theorem dX2_line_3 : decode cX2_line 3 = .ok (.bipush 7, 2) := by decide +kernel
theorem dX2_line_5 : decode cX2_line 5 = .ok (.iand, 1) := by decide +kernel
theorem dX2_line_6 : decode cX2_line 6 = .ok (.ireturn, 1) := by decide +kernel
def xX2_line  (l0 : Int32) (M : j_M) : Option (Int32 × j_M) := some ((us l0 (nI 4)) &&& (nI 7), M)
set_option maxRecDepth 20000 in
set_option maxHeartbeats 2000000 in
theorem tX2_line  (l0 : Int32) (M : j_M) : J (ρ := Int32 × j_M) yX2_line cX2_line 1 (some .int) 0 0 j_ei 0 [(0, .inl (l0))] [] M (xX2_line  l0 M) := by
  unfold xX2_line
  refine K_iload_n (q := 1) 0 dX2_line_0 rfl rfl rfl ?_
  refine K_iconst (q := 2) (v := nI 4) dX2_line_1 rfl rfl ?_
  refine K_iushr (q := 3) dX2_line_2 rfl ?_
  refine K_bipush (q := 5) (v := nI 7) dX2_line_3 rfl rfl ?_
  refine K_iand (q := 6) dX2_line_5 rfl ?_
  exact J_iret dX2_line_6
theorem dX0_of_0 : decode cX0_of 0 = .ok (.iload_n 0, 1) := by decide +kernel
theorem dX0_of_1 : decode cX0_of 1 = .ok (.iload_n 1, 1) := by decide +kernel
theorem dX0_of_2 : decode cX0_of 2 = .ok (.iconst 4, 1) := by decide +kernel
theorem dX0_of_3 : decode cX0_of 3 = .ok (.ishl, 1) := by decide +kernel
theorem dX0_of_4 : decode cX0_of 4 = .ok (.ior, 1) := by decide +kernel
theorem dX0_of_5 : decode cX0_of 5 = .ok (.iload_n 2, 1) := by decide +kernel
theorem dX0_of_6 : decode cX0_of 6 = .ok (.bipush 11, 2) := by decide +kernel
theorem dX0_of_8 : decode cX0_of 8 = .ok (.ishl, 1) := by decide +kernel
theorem dX0_of_9 : decode cX0_of 9 = .ok (.ior, 1) := by decide +kernel
theorem dX0_of_10 : decode cX0_of 10 = .ok (.ireturn, 1) := by decide +kernel
def xX0_of  (l0 : Int32) (l1 : Int32) (l2 : Int32) (M : j_M) : Option (Int32 × j_M) := some ((l0 ||| (l1 <<< ((nI 4) &&& 31))) ||| (l2 <<< ((nI 11) &&& 31)), M)
set_option maxRecDepth 20000 in
set_option maxHeartbeats 2000000 in
theorem tX0_of  (l0 : Int32) (l1 : Int32) (l2 : Int32) (M : j_M) : J (ρ := Int32 × j_M) yX0_of cX0_of 3 (some .int) 0 0 j_ei 0 [(0, .inl (l0)), (1, .inl (l1)), (2, .inl (l2))] [] M (xX0_of  l0 l1 l2 M) := by
  unfold xX0_of
  refine K_iload_n (q := 1) 0 dX0_of_0 rfl rfl rfl ?_
  refine K_iload_n (q := 2) 1 dX0_of_1 rfl rfl rfl ?_
  refine K_iconst (q := 3) (v := nI 4) dX0_of_2 rfl rfl ?_
  refine K_ishl (q := 4) dX0_of_3 rfl ?_
  refine K_ior (q := 5) dX0_of_4 rfl ?_
  refine K_iload_n (q := 6) 2 dX0_of_5 rfl rfl rfl ?_
  refine K_bipush (q := 8) (v := nI 11) dX0_of_6 rfl rfl ?_
  refine K_ishl (q := 9) dX0_of_8 rfl ?_
  refine K_ior (q := 10) dX0_of_9 rfl ?_
  exact J_iret dX0_of_10
theorem dX0_withCpu_0 : decode cX0_withCpu 0 = .ok (.iload_n 0, 1) := by decide +kernel
theorem dX0_withCpu_1 : decode cX0_withCpu 1 = .ok (.iload_n 1, 1) := by decide +kernel
theorem dX0_withCpu_2 : decode cX0_withCpu 2 = .ok (.bipush 25, 2) := by decide +kernel
theorem dX0_withCpu_4 : decode cX0_withCpu 4 = .ok (.ishl, 1) := by decide +kernel
theorem dX0_withCpu_5 : decode cX0_withCpu 5 = .ok (.ior, 1) := by decide +kernel
theorem dX0_withCpu_6 : decode cX0_withCpu 6 = .ok (.ireturn, 1) := by decide +kernel
def xX0_withCpu  (l0 : Int32) (l1 : Int32) (M : j_M) : Option (Int32 × j_M) := some (l0 ||| (l1 <<< ((nI 25) &&& 31)), M)
set_option maxRecDepth 20000 in
set_option maxHeartbeats 2000000 in
theorem tX0_withCpu  (l0 : Int32) (l1 : Int32) (M : j_M) : J (ρ := Int32 × j_M) yX0_withCpu cX0_withCpu 2 (some .int) 0 0 j_ei 0 [(0, .inl (l0)), (1, .inl (l1))] [] M (xX0_withCpu  l0 l1 M) := by
  unfold xX0_withCpu
  refine K_iload_n (q := 1) 0 dX0_withCpu_0 rfl rfl rfl ?_
  refine K_iload_n (q := 2) 1 dX0_withCpu_1 rfl rfl rfl ?_
  refine K_bipush (q := 4) (v := nI 25) dX0_withCpu_2 rfl rfl ?_
  refine K_ishl (q := 5) dX0_withCpu_4 rfl ?_
  refine K_ior (q := 6) dX0_withCpu_5 rfl ?_
  exact J_iret dX0_withCpu_6
