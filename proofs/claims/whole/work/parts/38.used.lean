/-! ===== the order of use ===== -/
def a_shift (S : a_S) (c k U : Nat) : a_S := fun r i =>
  if r = 244 then (if 8 * c + k ≤ i ∧ i < 8 * c + U then S 244 (i + 1) else if i = 8 * c + U then 0 else S 244 i) else S r i
def a_forget (S : a_S) (c l : Nat) : a_S := if a_used S c l = 0 then S else a_shift (sw S 238 c (S 238 c - 1)) c (a_used S c l - 1) (S 238 c - 1)
def a_use (S : a_S) (c l : Nat) : a_S := sw (sw (a_forget S c l) 244 (8 * c + a_forget S c l 238 c) l) 238 c (a_forget S c l 238 c + 1)
theorem r_shift {N : j_M} {c : Nat} (hc : c < 6) : ∀ (m n k : Nat) (S : a_S), S 238 c ≤ 7 → k + m = S 238 c → xX12_forgets_30 (n + m + 1) (nI c) (nI k) (RS N S) = some (RS N (a_shift S c k (S 238 c)))
  | 0, n, k, S, hU, h => by
    rw [show n + 0 + 1 = n + 1 from rfl, xX12_forgets_30.eq_2]
    simp (disch := omega) only [m_place, e_gd, e_ix, e_oli, e_oml, e_obi, e_obv, e_add, e_mul, e_sub, e_eq, e_lt, e_le, e_eq0, e_0eq, e_lt0, e_0lt, e_le0, e_0le, e_m1, e_m1', e_m1lt, Nat.add_assoc, Nat.not_lt_zero, Nat.le_zero_eq, sr_1, sr_14, sr_70, sr_126, sr_182, sr_238, sr_244, sr_292, sr_298, sr_304, sr_310, sr_316, sr_358, sr_400, sr_442, sr_484, sr_526, sr_532, sr_538, so_586, sr_586, sr_2746, sr_2752, sr_3112, sr_3118, sr_3124, sr_3130, sr_6730, sr_6736, sr_6766, sr_6814, sr_6961, sr_6962, sr_7362, sr_7363, sr_7364, su_6961, su_7362, su_7363, st_1, st_14, st_70, st_126, st_182, st_238, st_244, sm_292, so_292, st_292, st_298, st_304, st_310, st_316, st_358, st_400, st_442, st_484, st_526, st_532, sm_538, so_538, st_538, sm_586, sn_586, sp_586, st_586, st_2746, st_2752, st_3112, st_3118, st_3124, st_3130, st_6730, st_6736, st_6766, st_6814, st_6961, st_6962, st_7362, st_7363, st_7364, sv_6961, sv_7362, sv_7363, if_pos]
    congr 2
    funext r i
    simp only [sw, a_shift]
    by_cases h1 : r = 244
    · subst h1
      simp only [true_and, if_true]
      (repeat' split) <;> first | rfl | omega
    · simp only [h1, false_and, if_false]
  | m + 1, n, k, S, hU, h => by
    rw [show n + (m + 1) + 1 = (n + m + 1) + 1 by omega, xX12_forgets_30.eq_2]
    simp (disch := omega) only [m_place, e_gd, e_ix, e_oli, e_oml, e_obi, e_obv, e_add, e_mul, e_sub, e_eq, e_lt, e_le, e_eq0, e_0eq, e_lt0, e_0lt, e_le0, e_0le, e_m1, e_m1', e_m1lt, Nat.add_assoc, Nat.not_lt_zero, Nat.le_zero_eq, sr_1, sr_14, sr_70, sr_126, sr_182, sr_238, sr_244, sr_292, sr_298, sr_304, sr_310, sr_316, sr_358, sr_400, sr_442, sr_484, sr_526, sr_532, sr_538, so_586, sr_586, sr_2746, sr_2752, sr_3112, sr_3118, sr_3124, sr_3130, sr_6730, sr_6736, sr_6766, sr_6814, sr_6961, sr_6962, sr_7362, sr_7363, sr_7364, su_6961, su_7362, su_7363, st_1, st_14, st_70, st_126, st_182, st_238, st_244, sm_292, so_292, st_292, st_298, st_304, st_310, st_316, st_358, st_400, st_442, st_484, st_526, st_532, sm_538, so_538, st_538, sm_586, sn_586, sp_586, st_586, st_2746, st_2752, st_3112, st_3118, st_3124, st_3130, st_6730, st_6736, st_6766, st_6814, st_6961, st_6962, st_7362, st_7363, st_7364, sv_6961, sv_7362, sv_7363]
    have e := r_shift (N := N) hc m n (k + 1) (sw S 244 (8 * c + k) (S 244 (8 * c + (k + 1)))) (by rw [sw_r (by omega)]; exact hU) (by rw [sw_r (by omega)]; omega)
    rw [show n + (m + 1) = n + m + 1 from rfl, e, if_neg (by omega)]
    congr 2
    rw [sw_r (by omega)]
    funext r i
    simp only [sw, a_shift]
    by_cases h1 : r = 244
    · subst h1
      simp only [true_and, if_true]
      (repeat' split) <;> first | rfl | omega | (subst_vars; first | rfl | omega)
    · simp only [h1, false_and, if_false]
theorem fr_lt {P : Nat → Prop} [DecidablePred P] {m k : Nat} : fr P m k ≤ k + m := fr_le m k
theorem fr_gt {P : Nat → Prop} [DecidablePred P] : ∀ (m k : Nat), fr P m k = 0 ∨ k < fr P m k
  | 0, k => Or.inl rfl
  | m + 1, k => by
    rw [fr_s]
    have h := fr_gt (P := P) m (k + 1)
    split <;> omega
theorem r_forgets {N : j_M} {S : a_S} {c l : Nat} (hN : S 238 c ≤ 8) (hc : c < 6) (hl : l < 8) (ha : ∀ i, i < 48 → S 244 i < 8) : xX12_forgets (nI c) (nI l) (RS N S) = some (RS N (a_forget S c l)) := by
  have h1 : a_used S c l ≤ S 238 c := by have := fr_le (P := fun k => S 244 (8 * c + k) = l) (S 238 c) 0; unfold a_used; omega
  unfold xX12_forgets a_forget
  rw [r_usedAt hN hc hl ha]
  simp (disch := omega) only [e_gd, e_ix, e_oli, e_oml, e_obi, e_obv, e_add, e_mul, e_sub, e_eq, e_lt, e_le, e_eq0, e_0eq, e_lt0, e_0lt, e_le0, e_0le, e_m1, e_m1', e_m1lt, Nat.add_assoc, Nat.not_lt_zero, Nat.le_zero_eq, oI_m1]
  by_cases h0 : a_used S c l = 0
  · rw [if_pos h0, if_pos h0]
  · rw [if_neg h0, if_neg h0]
    obtain ⟨u, hu⟩ : ∃ u, a_used S c l = u + 1 := ⟨a_used S c l - 1, by omega⟩
    rw [hu, oI_s]
    simp (disch := omega) only [e_gd, e_ix, e_oli, e_oml, e_obi, e_obv, e_add, e_mul, e_sub, e_eq, e_lt, e_le, e_eq0, e_0eq, e_lt0, e_0lt, e_le0, e_0le, e_m1, e_m1', e_m1lt, Nat.add_assoc, Nat.not_lt_zero, Nat.le_zero_eq, sr_1, sr_14, sr_70, sr_126, sr_182, sr_238, sr_244, sr_292, sr_298, sr_304, sr_310, sr_316, sr_358, sr_400, sr_442, sr_484, sr_526, sr_532, sr_538, so_586, sr_586, sr_2746, sr_2752, sr_3112, sr_3118, sr_3124, sr_3130, sr_6730, sr_6736, sr_6766, sr_6814, sr_6961, sr_6962, sr_7362, sr_7363, sr_7364, su_6961, su_7362, su_7363, st_1, st_14, st_70, st_126, st_182, st_238, st_244, sm_292, so_292, st_292, st_298, st_304, st_310, st_316, st_358, st_400, st_442, st_484, st_526, st_532, sm_538, so_538, st_538, sm_586, sn_586, sp_586, st_586, st_2746, st_2752, st_3112, st_3118, st_3124, st_3130, st_6730, st_6736, st_6766, st_6814, st_6961, st_6962, st_7362, st_7363, st_7364, sv_6961, sv_7362, sv_7363]
    have e := r_shift (N := N) hc (S 238 c - 1 - u) (1000000 - (S 238 c - u)) u (sw S 238 c (S 238 c - 1)) (by rw [sw_at]; omega) (by rw [sw_at]; omega)
    rw [sw_at] at e
    rw [fu_s (S 238 c - u) (by omega), show 1000000 - (S 238 c - u) + (S 238 c - u) = 1000000 - (S 238 c - u) + (S 238 c - 1 - u) + 1 by omega, e]
    rfl
theorem r_uses {N : j_M} {S : a_S} {c l : Nat} (hN : S 238 c ≤ 8) (hc : c < 6) (hl : l < 8) (ha : ∀ i, i < 48 → S 244 i < 8) (h7 : a_forget S c l 238 c ≤ 7) : xX12_uses (nI c) (nI l) (RS N S) = some (RS N (a_use S c l)) := by
  unfold xX12_uses a_use
  rw [r_forgets hN hc hl ha]
  simp (disch := omega) only [m_place, e_gd, e_ix, e_oli, e_oml, e_obi, e_obv, e_add, e_mul, e_sub, e_eq, e_lt, e_le, e_eq0, e_0eq, e_lt0, e_0lt, e_le0, e_0le, e_m1, e_m1', e_m1lt, Nat.add_assoc, Nat.not_lt_zero, Nat.le_zero_eq, sr_1, sr_14, sr_70, sr_126, sr_182, sr_238, sr_244, sr_292, sr_298, sr_304, sr_310, sr_316, sr_358, sr_400, sr_442, sr_484, sr_526, sr_532, sr_538, so_586, sr_586, sr_2746, sr_2752, sr_3112, sr_3118, sr_3124, sr_3130, sr_6730, sr_6736, sr_6766, sr_6814, sr_6961, sr_6962, sr_7362, sr_7363, sr_7364, su_6961, su_7362, su_7363, st_1, st_14, st_70, st_126, st_182, st_238, st_244, sm_292, so_292, st_292, st_298, st_304, st_310, st_316, st_358, st_400, st_442, st_484, st_526, st_532, sm_538, so_538, st_538, sm_586, sn_586, sp_586, st_586, st_2746, st_2752, st_3112, st_3118, st_3124, st_3130, st_6730, st_6736, st_6766, st_6814, st_6961, st_6962, st_7362, st_7363, st_7364, sv_6961, sv_7362, sv_7363, sw_r]
