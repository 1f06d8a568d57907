/-! ===== what a message brings; what is read behind a sending ===== -/
theorem as_o {S : a_S} {f t k l mn ow wi nt wh r i : Nat} (h : r ≠ 586 ∧ r ≠ 1 ∧ r ≠ 6814) : a_send S f t k l mn ow wi nt wh r i = S r i := by
  simp only [a_send, h.1, h.2.1, h.2.2, if_false]
theorem as_1 {S : a_S} {f t k l mn ow wi nt wh i : Nat} (h : i ≠ 7) : a_send S f t k l mn ow wi nt wh 1 i = S 1 i := by
  simp only [a_send, h, Nat.reduceEqDiff, if_false, if_true]
theorem as_7 {S : a_S} {f t k l mn ow wi nt wh : Nat} : a_send S f t k l mn ow wi nt wh 1 7 = S 1 7 + 1 := by
  simp only [a_send, Nat.reduceEqDiff, if_false, if_true]
theorem as_f {S : a_S} {f t k l mn ow wi nt wh j : Nat} (h : j < 9) : a_send S f t k l mn ow wi nt wh 586 (9 * S 1 7 + j) = fl9 f t k l mn ow wi nt wh j := by
  simp only [a_send, if_true]
  rw [if_pos (by omega), Nat.add_sub_cancel_left]
theorem as_f0 {S : a_S} {f t k l mn ow wi nt wh : Nat} : a_send S f t k l mn ow wi nt wh 586 (9 * S 1 7) = f := as_f (j := 0) (by omega)
theorem as_f1 {S : a_S} {f t k l mn ow wi nt wh : Nat} : a_send S f t k l mn ow wi nt wh 586 (9 * S 1 7 + 1) = t := as_f (j := 1) (by omega)
theorem as_e {S : a_S} {f t k l mn ow wi nt wh i : Nat} (h : i < 9 * S 1 7) : a_send S f t k l mn ow wi nt wh 586 i = S 586 i := by
  simp only [a_send, if_true]
  rw [if_neg (by omega)]
theorem as_w {S : a_S} {f t k l mn ow wi : Nat} {x : Nat} : a_send S f t k l mn ow wi 0 0 6814 x = (if x = 3 * (7 * f + t) then S 6814 x + 1 else if x = 3 * (7 * f + t) + 1 then S 6814 x + mn else if x = 3 * (7 * f + t) + 2 then S 6814 x + (if wi = 0 then 0 else 1) else S 6814 x) := rfl
theorem r_brings {N : j_M} {S : a_S} {f t k l mn ow wi : Nat} (hq : S 1 7 < 240) (hf : f < 7) (ht : t < 7) (hw : wi < 20000) : xX12_brings (nI (586 + 9 * S 1 7)) (nI mn) (nI ow) (oI wi) (RS N (a_send S f t k l 0 0 0 0 0)) = some (RS N (a_send S f t k l mn ow wi 0 0)) := by
  have e : ∀ z, z = (if wi = 0 then 0 else 1) → sw (sw (sw (sw (sw (a_send S f t k l 0 0 0 0 0) 586 (9 * S 1 7 + 4) mn) 586 (9 * S 1 7 + 5) ow) 586 (9 * S 1 7 + 6) wi) 6814 (3 * (7 * f + t) + 1) (S 6814 (3 * (7 * f + t) + 1) + mn)) 6814 (3 * (7 * f + t) + 2) (S 6814 (3 * (7 * f + t) + 2) + z) = a_send S f t k l mn ow wi 0 0 := by
    intro z hz
    funext r i
    simp only [sw, a_send, fl9, hz]
    by_cases h1 : r = 586
    · subst h1
      simp only [true_and, Nat.reduceEqDiff, false_and, if_false, if_true]
      by_cases c : 9 * S 1 7 ≤ i ∧ i < 9 * S 1 7 + 9
      · have h9 : i = 9 * S 1 7 ∨ i = 9 * S 1 7 + 1 ∨ i = 9 * S 1 7 + 2 ∨ i = 9 * S 1 7 + 3 ∨ i = 9 * S 1 7 + 4 ∨ i = 9 * S 1 7 + 5 ∨ i = 9 * S 1 7 + 6 ∨ i = 9 * S 1 7 + 7 ∨ i = 9 * S 1 7 + 8 := by omega
        rcases h9 with h | h | h | h | h | h | h | h | h <;> simp (disch := omega) only [if_pos, if_neg]
      · simp (disch := omega) only [if_neg]
    · by_cases h2 : r = 1
      · subst h2
        simp only [true_and, Nat.reduceEqDiff, false_and, if_false, if_true]
      · by_cases h3 : r = 6814
        · subst h3
          simp only [true_and, Nat.reduceEqDiff, false_and, if_false, if_true]
          (repeat' split) <;> first | rfl | omega | (subst_vars; first | rfl | omega)
        · simp only [h1, h2, h3, false_and, if_false]
  have w1 : a_send S f t k l 0 0 0 0 0 6814 (3 * (7 * f + t) + 1) = S 6814 (3 * (7 * f + t) + 1) := by
    rw [as_w, if_neg (by omega), if_pos rfl]; rfl
  have w2 : a_send S f t k l 0 0 0 0 0 6814 (3 * (7 * f + t) + 2) = S 6814 (3 * (7 * f + t) + 2) := by
    rw [as_w, if_neg (by omega), if_neg (by omega), if_pos rfl]; rfl
  simp (disch := omega) only [xX12_brings, xX12_brings_91, e_gd, e_ix, e_oli, e_oml, e_obi, e_obv, e_add, e_mul, e_sub, e_eq, e_lt, e_le, e_eq0, e_0eq, e_lt0, e_0lt, e_le0, e_0le, e_m1, e_m1', e_m1lt, Nat.add_assoc, Nat.not_lt_zero, Nat.le_zero_eq, sr_1, sr_14, sr_70, sr_126, sr_182, sr_238, sr_244, sr_292, sr_298, sr_304, sr_310, sr_316, sr_358, sr_400, sr_442, sr_484, sr_526, sr_532, sr_538, so_586, sr_586, sr_2746, sr_2752, sr_3112, sr_3118, sr_3124, sr_3130, sr_6730, sr_6736, sr_6766, sr_6814, sr_6961, sr_6962, sr_7362, sr_7363, sr_7364, su_6961, su_7362, su_7363, st_1, st_14, st_70, st_126, st_182, st_238, st_244, sm_292, so_292, st_292, st_298, st_304, st_310, st_316, st_358, st_400, st_442, st_484, st_526, st_532, sm_538, so_538, st_538, sm_586, sn_586, sp_586, st_586, st_2746, st_2752, st_3112, st_3118, st_3124, st_3130, st_6730, st_6736, st_6766, st_6814, st_6961, st_6962, st_7362, st_7363, st_7364, sv_6961, sv_7362, sv_7363, sw_r, sw_i, as_f0, as_f1, Nat.add_zero, oI_m1, w1, w2]
  by_cases h : wi = 0
  · have e0 := e 0 (by rw [if_pos h])
    rw [if_pos h]
    exact congrArg (fun z => some (RS N z)) e0
  · rw [if_neg h, e 1 (by rw [if_neg h])]
