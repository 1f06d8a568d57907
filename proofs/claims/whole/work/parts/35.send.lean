/-! ===== a message is sent ===== -/
theorem fu_s (n : Nat) (h : n ≤ 1000000) : fu = (1000000 - n) + n := by unfold fu; omega
def fl9 (f t k l mn ow wi nt wh j : Nat) : Nat := if j = 0 then f else if j = 1 then t else if j = 2 then k else if j = 3 then l else if j = 4 then mn else if j = 5 then ow else if j = 6 then wi else if j = 7 then nt else wh
def a_send (S : a_S) (f t k l mn ow wi nt wh : Nat) : a_S := fun r i =>
  if r = 586 then (if 9 * S 1 7 ≤ i ∧ i < 9 * S 1 7 + 9 then fl9 f t k l mn ow wi nt wh (i - 9 * S 1 7) else S 586 i)
  else if r = 1 then (if i = 7 then S 1 7 + 1 else S 1 i)
  else if r = 6814 then (if i = 3 * (7 * f + t) then S 6814 i + 1 else if i = 3 * (7 * f + t) + 1 then S 6814 i + mn else if i = 3 * (7 * f + t) + 2 then S 6814 i + (if wi = 0 then 0 else 1) else S 6814 i)
  else S r i
theorem sn_loop {N : j_M} {a b c d : Int32} : ∀ (m n k q : Nat) (S : a_S), k + m = 9 → q < 240 → xX12_sends_19 (n + m + 1) a b c d (nI (586 + 9 * q)) (nI k) (RS N S) = xX12_sends_19 (n + 1) a b c d (nI (586 + 9 * q)) (nI 9) (RS N (fun r i => if r = 586 ∧ 9 * q + k ≤ i ∧ i < 9 * q + 9 then (if i = 9 * q + 6 then 1 else 0) else S r i)) := by
  intro m
  induction m with
  | zero =>
    intro n k q S hk hq
    have e : (fun r i => if r = 586 ∧ 9 * q + k ≤ i ∧ i < 9 * q + 9 then (if i = 9 * q + 6 then 1 else 0) else S r i) = S := by
      funext r i
      rw [if_neg (by omega)]
    rw [e, show k = 9 by omega]
  | succ m ih =>
    intro n k q S hk hq
    have e1 : mw (RS N S) 201 (586 + (9 * q + k)) (nI 0) = RS N (sw S 586 (9 * q + k) (if k = 6 then 1 else 0)) := by
      by_cases h6 : k = 6
      · rw [if_pos h6, sn_586 (by omega) (by omega)]
      · rw [if_neg h6, st_586 (by omega) (by omega)]
    rw [show n + (m + 1) + 1 = (n + m + 1) + 1 by omega, xX12_sends_19.eq_2]
    simp (disch := omega) only [e_gd, e_ix, e_oli, e_oml, e_obi, e_obv, e_add, e_mul, e_sub, e_eq, e_lt, e_le, e_eq0, e_0eq, e_lt0, e_0lt, e_le0, e_0le, e_m1, e_m1', e_m1lt, Nat.add_assoc, Nat.not_lt_zero, Nat.le_zero_eq, e1]
    rw [if_neg (by omega), show n + (m + 1) = n + m + 1 from rfl, ih n (k + 1) q _ (by omega) hq]
    congr 2
    funext r i
    simp only [sw]
    (repeat' split) <;> first | rfl | omega
theorem r_sends {N : j_M} {S : a_S} {f t k l : Nat} (hq : S 1 7 < 240) (hf : f < 7) (ht : t < 7) : xX12_sends (nI f) (nI t) (nI k) (nI l) (RS N S) = some (nI (586 + 9 * S 1 7), RS N (a_send S f t k l 0 0 0 0 0)) := by
  simp (disch := omega) only [xX12_sends, e_gd, e_ix, e_oli, e_oml, e_obi, e_obv, e_add, e_mul, e_sub, e_eq, e_lt, e_le, e_eq0, e_0eq, e_lt0, e_0lt, e_le0, e_0le, e_m1, e_m1', e_m1lt, Nat.add_assoc, Nat.not_lt_zero, Nat.le_zero_eq, sr_1, sr_14, sr_70, sr_126, sr_182, sr_238, sr_244, sr_292, sr_298, sr_304, sr_310, sr_316, sr_358, sr_400, sr_442, sr_484, sr_526, sr_532, sr_538, so_586, sr_586, sr_2746, sr_2752, sr_3112, sr_3118, sr_3124, sr_3130, sr_6730, sr_6736, sr_6766, sr_6814, sr_6961, sr_6962, sr_7362, sr_7363, sr_7364, su_6961, su_7362, su_7363]
  rw [fu_s 10 (by omega), show 1000000 - 10 + 10 = 999990 + 9 + 1 by omega, sn_loop 9 999990 0 (S 1 7) S (by omega) hq, xX12_sends_19.eq_2, if_pos (by simp (disch := omega) only [e_le, Nat.le_refl])]
  simp (disch := omega) only [e_gd, e_ix, e_oli, e_oml, e_obi, e_obv, e_add, e_mul, e_sub, e_eq, e_lt, e_le, e_eq0, e_0eq, e_lt0, e_0lt, e_le0, e_0le, e_m1, e_m1', e_m1lt, Nat.add_assoc, Nat.not_lt_zero, Nat.le_zero_eq, sr_1, sr_14, sr_70, sr_126, sr_182, sr_238, sr_244, sr_292, sr_298, sr_304, sr_310, sr_316, sr_358, sr_400, sr_442, sr_484, sr_526, sr_532, sr_538, so_586, sr_586, sr_2746, sr_2752, sr_3112, sr_3118, sr_3124, sr_3130, sr_6730, sr_6736, sr_6766, sr_6814, sr_6961, sr_6962, sr_7362, sr_7363, sr_7364, su_6961, su_7362, su_7363, st_1, st_14, st_70, st_126, st_182, st_238, st_244, sm_292, so_292, st_292, st_298, st_304, st_310, st_316, st_358, st_400, st_442, st_484, st_526, st_532, sm_538, so_538, st_538, sm_586, sn_586, sp_586, st_586, st_2746, st_2752, st_3112, st_3118, st_3124, st_3130, st_6730, st_6736, st_6766, st_6814, st_6961, st_6962, st_7362, st_7363, st_7364, sv_6961, sv_7362, sv_7363, sw_r]
  congr 3
  funext r i
  simp only [sw, a_send, fl9]
  by_cases h1 : r = 586
  · subst h1
    simp only [true_and, Nat.reduceEqDiff, false_and, if_false, if_true]
    (repeat' split) <;> first | rfl | omega
  · by_cases h2 : r = 1
    · subst h2
      simp only [true_and, Nat.reduceEqDiff, false_and, if_false, if_true]
    · by_cases h3 : r = 6814
      · subst h3
        simp only [true_and, Nat.reduceEqDiff, false_and, if_false, if_true]
        (repeat' split) <;> first | rfl | omega | (subst_vars; first | rfl | omega)
      · simp only [h1, h2, h3, false_and, if_false]
