/-! ===== the reference's small methods ===== -/
theorem m_place (a b : Nat) (M : j_M) : xX12_place (nI a) (nI b) M = some (nI (8 * a + b), M) := by
  simp only [xX12_place, e_mul, e_add]
theorem m_isIn {a b c : Nat} (M : j_M) (ha : a < 2147483648) (hb : b < 2147483648) (hc : c < 2147483648) : xX12_isIn (nI a) (nI b) (nI c) M = some (if b ≤ a ∧ a ≤ c then nI 1 else nI 0, M) := by
  simp (disch := omega) only [xX12_isIn, e_lt]
  by_cases h1 : a < b
  · rw [if_pos h1, if_neg (by omega)]
  · rw [if_neg h1]
    by_cases h2 : c < a
    · rw [if_pos h2, if_neg (by omega)]
    · rw [if_neg h2, if_pos (by omega)]
theorem m_isHit {N W : j_M} {n l w c T : Nat} {v : Nat} (hn : n < 7) (hl : l < 8) (hv : W 126 (8 * n + l) = nI v) (hc : W 14 (8 * n + l) = nI c) (hT : W 1 1 = nI T) (hv2 : v < 2) (hc2 : c < 100) (hT2 : T < 100) (hw : w < 4) : xX12_isHit (nI n) (nI l) (nI w) (RM N W) = some (if v = 1 ∧ (if w = 1 then 0 < c else c = T) then nI 1 else nI 0, RM N W) := by
  simp (disch := omega) only [xX12_isHit, m_place, e_gd, e_ix, e_oli, e_oml, e_obi, e_obv, e_add, e_mul, e_sub, e_eq, e_lt, e_le, e_eq0, e_0eq, e_lt0, e_0lt, e_le0, e_0le, e_m1, e_m1', e_m1lt, Nat.add_assoc, Nat.not_lt_zero, Nat.le_zero_eq, rr_1, rr_14, rr_70, rr_126, rr_182, rr_238, rr_244, rr_292, rr_298, rr_304, rr_310, rr_316, rr_358, rr_400, rr_442, rr_484, rr_526, rr_532, rr_538, rr_586, rr_2746, rr_2752, rr_3112, rr_3118, rr_3124, rr_3130, rr_6730, rr_6736, rr_6766, rr_6814, rr_6961, rr_6962, rr_7362, rr_7363, rr_7364, rs_6961, rs_7362, rs_7363, hv, hc, hT]
  by_cases h1 : v = 1
  · by_cases h2 : w = 1
    · by_cases h3 : c = 0
      · simp [h1, h2, h3]
      · simp [h1, h2, h3, Nat.pos_of_ne_zero h3]
    · by_cases h3 : c = T
      · simp [h1, h2, h3]
      · simp [h1, h2, h3]
  · simp [h1]
theorem m_of {N W : j_M} {i f : Nat} (hi : i < 240) (hf : f < 9) : xX12_of (nI i) (nI f) (RM N W) = some (W 586 (9 * i + f), RM N W) := by
  simp (disch := omega) only [xX12_of, e_gd, e_ix, e_oli, e_oml, e_obi, e_obv, e_add, e_mul, e_sub, e_eq, e_lt, e_le, e_eq0, e_0eq, e_lt0, e_0lt, e_le0, e_0le, e_m1, e_m1', e_m1lt, Nat.add_assoc, Nat.not_lt_zero, Nat.le_zero_eq, rr_1, rr_14, rr_70, rr_126, rr_182, rr_238, rr_244, rr_292, rr_298, rr_304, rr_310, rr_316, rr_358, rr_400, rr_442, rr_484, rr_526, rr_532, rr_538, rr_586, rr_2746, rr_2752, rr_3112, rr_3118, rr_3124, rr_3130, rr_6730, rr_6736, rr_6766, rr_6814, rr_6961, rr_6962, rr_7362, rr_7363, rr_7364, rs_6961, rs_7362, rs_7363]
