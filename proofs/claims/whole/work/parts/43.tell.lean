/-! ===== tellsAll ===== -/
theorem r_isCpu {N : j_M} {S : a_S} {c : Nat} (h : RG S) (h1 : 1 ≤ S 1 0) (hc : c < 2147483648) : xX12_isCpu (nI c) (RS N S) = some (if c < S 1 0 then nI 1 else nI 0, RS N S) := by
  have hn := g_n h
  unfold xX12_isCpu
  simp (disch := omega) only [e_gd, e_ix, e_oli, e_oml, e_obi, e_obv, e_add, e_mul, e_sub, e_eq, e_lt, e_le, e_eq0, e_0eq, e_lt0, e_0lt, e_le0, e_0le, e_m1, e_m1', e_m1lt, Nat.add_assoc, Nat.not_lt_zero, Nat.le_zero_eq, sr_1, sr_14, sr_70, sr_126, sr_182, sr_238, sr_244, sr_292, sr_298, sr_304, sr_310, sr_316, sr_358, sr_400, sr_442, sr_484, sr_526, sr_532, sr_538, so_586, sr_586, sr_2746, sr_2752, sr_3112, sr_3118, sr_3124, sr_3130, sr_6730, sr_6736, sr_6766, sr_6814, sr_6961, sr_6962, sr_7362, sr_7363, sr_7364, su_6961, su_7362, su_7363, m_isIn]
  by_cases h2 : c < S 1 0
  · rw [if_pos h2, if_pos (by omega), e_gz1]
  · rw [if_neg h2, if_neg (by omega), e_gz0]
theorem r_isNode {N : j_M} {S : a_S} {c : Nat} (h : RG S) (h1 : 1 ≤ S 1 0) (hc : c < 2147483648) : xX12_isNode (nI c) (RS N S) = some (if c < S 1 0 ∨ c = 6 then nI 1 else nI 0, RS N S) := by
  unfold xX12_isNode
  rw [r_isCpu h h1 hc]
  simp (disch := omega) only [e_gd, e_ix, e_oli, e_oml, e_obi, e_obv, e_add, e_mul, e_sub, e_eq, e_lt, e_le, e_eq0, e_0eq, e_lt0, e_0lt, e_le0, e_0le, e_m1, e_m1', e_m1lt, Nat.add_assoc, Nat.not_lt_zero, Nat.le_zero_eq]
  by_cases h2 : c < S 1 0
  · rw [if_pos h2, if_pos (Or.inl h2), if_neg (by decide)]
  · rw [if_neg h2, if_pos (by decide)]
    by_cases h3 : c = 6
    · rw [if_pos h3, if_pos (Or.inr h3)]
    · rw [if_neg h3, if_neg (by omega)]
def a_tells (c k l wh : Nat) : Nat → Nat → a_S → a_S
  | 0, _, S => S
  | m + 1, to, S => a_tells c k l wh m (to + 1) (if to ≠ c ∧ (to < S 1 0 ∨ to = 6) then a_send S c to k l 0 0 0 (S 316 (6 * c + c)) wh else S)
