/-! ===== tellsAll ===== -/
theorem r_isCpu {N : j_M} {S : a_S} {c : Nat} (h : RG S) (h1 : 1 ≤ S 1 0) (hc : c < 2147483648) : xX12_isCpu (nI c) (RS N S) = some (if c < S 1 0 then nI 1 else nI 0, RS N S) := by
  have hn := g_n h
  unfold xX12_isCpu
  simp (disch := omega) only [e_gd, e_ix, e_oli, e_oml, e_obi, e_obv, e_add, e_mul, e_sub, e_eq, e_lt, e_le, e_eq0, e_0eq, e_lt0, e_0lt, e_le0, e_0le, e_m1, e_m1', e_m1lt, Nat.add_assoc, Nat.not_lt_zero, Nat.le_zero_eq, sr_1, sr_14, sr_70, sr_126, sr_182, sr_238, sr_244, sr_292, sr_298, sr_304, sr_310, sr_316, sr_358, sr_400, sr_442, sr_484, sr_526, sr_532, sr_538, so_586, sr_586, sr_2746, sr_2752, sr_3112, sr_3118, sr_3124, sr_3130, sr_6730, sr_6736, sr_6766, sr_6814, sr_6961, sr_6962, sr_7362, sr_7363, sr_7364, su_6961, su_7362, su_7363, m_isIn]
  by_cases h2 : c < S 1 0
  · rw [if_pos h2, if_pos (by omega), e_gz1]
  · rw [if_neg h2, if_neg (by omega), e_gz0]
theorem r_isNode {N : j_M} {S : a_S} {c : Nat} (h : RG S) (h1 : 1 ≤ S 1 0) (hc : c < 2147483648) : xX12_isNode (nI c) (RS N S) = some (if c < S 1 0 ∨ c = 6 then nI 1 else nI 0, RS N S) := by
  unfold xX12_isNode
  rw [r_isCpu h h1 hc]
  simp (disch := omega) only [e_gd, e_ix, e_oli, e_oml, e_obi, e_obv, e_add, e_mul, e_sub, e_eq, e_lt, e_le, e_eq0, e_0eq, e_lt0, e_0lt, e_le0, e_0le, e_m1, e_m1', e_m1lt, Nat.add_assoc, Nat.not_lt_zero, Nat.le_zero_eq]
  by_cases h2 : c < S 1 0
  · rw [if_pos h2, if_pos (Or.inl h2), if_neg (by decide)]
  · rw [if_neg h2, if_pos (by decide)]
    by_cases h3 : c = 6
    · rw [if_pos h3, if_pos (Or.inr h3)]
    · rw [if_neg h3, if_neg (by omega)]
def a_tells (c k l wh : Nat) : Nat → Nat → a_S → a_S
  | 0, _, S => S
  | m + 1, to, S => a_tells c k l wh m (to + 1) (if to ≠ c ∧ (to < S 1 0 ∨ to = 6) then a_send S c to k l 0 0 0 (S 316 (6 * c + c)) wh else S)
theorem as_nw {S : a_S} {f t k l nt wh : Nat} : sw (sw (a_send S f t k l 0 0 0 0 0) 586 (9 * S 1 7 + 7) nt) 586 (9 * S 1 7 + 8) wh = a_send S f t k l 0 0 0 nt wh := by
  funext r i
  simp only [sw, a_send, fl9]
  by_cases h1 : r = 586
  · subst h1
    simp only [true_and, if_true]
    by_cases c : 9 * S 1 7 ≤ i ∧ i < 9 * S 1 7 + 9
    · have h9 : i < 9 * S 1 7 + 7 ∨ i = 9 * S 1 7 + 7 ∨ i = 9 * S 1 7 + 8 := by omega
      rcases h9 with h | h | h
      · rw [if_neg (by omega), if_neg (by omega), if_pos c, if_pos c]
        (repeat' split) <;> first | rfl | omega
      · subst h
        simp (disch := omega) only [if_pos, if_neg, if_true]
      · subst h
        simp (disch := omega) only [if_pos, if_neg, if_true]
    · simp (disch := omega) only [if_neg]
  · simp only [h1, false_and, if_false]
theorem r_tells {N : j_M} {c k l wh : Nat} (hc : c < 6) (hk : k < 6) (hl : l < 8) (hw : wh < 4) : ∀ (m n to : Nat) (S : a_S), RG S → 1 ≤ S 1 0 → S 1 7 + m ≤ 240 → to + m = 7 → xX12_tellsAll_3 (n + m + 1) (nI c) (nI k) (nI l) (nI wh) (nI to) (RS N S) = some (RS N (a_tells c k l wh m to S))
  | 0, n, to, S, h, h1, hq, ht => by
    rw [show n + 0 + 1 = n + 1 from rfl, xX12_tellsAll_3.eq_2]
    simp (disch := omega) only [e_gd, e_ix, e_oli, e_oml, e_obi, e_obv, e_add, e_mul, e_sub, e_eq, e_lt, e_le, e_eq0, e_0eq, e_lt0, e_0lt, e_le0, e_0le, e_m1, e_m1', e_m1lt, Nat.add_assoc, Nat.not_lt_zero, Nat.le_zero_eq, if_pos]
    rfl
  | m + 1, n, to, S, h, h1, hq, ht => by
    have hs := g_t h 316 (6 * c + c) (Or.inl rfl)
    rw [show n + (m + 1) + 1 = (n + m + 1) + 1 by omega, xX12_tellsAll_3.eq_2]
    simp (disch := omega) only [e_gd, e_ix, e_oli, e_oml, e_obi, e_obv, e_add, e_mul, e_sub, e_eq, e_lt, e_le, e_eq0, e_0eq, e_lt0, e_0lt, e_le0, e_0le, e_m1, e_m1', e_m1lt, Nat.add_assoc, Nat.not_lt_zero, Nat.le_zero_eq, r_isNode h h1, r_sends]
    rw [if_neg (by omega), show n + (m + 1) = n + m + 1 from rfl]
    have e0 := r_tells (N := N) hc hk hl hw m n (to + 1) S h h1 (by omega) (by omega)
    by_cases h2 : to = c
    · rw [if_pos h2, e0]
      conv => rhs; unfold a_tells
      rw [if_neg (by omega)]
    · rw [if_neg h2]
      by_cases h3 : to < S 1 0 ∨ to = 6
      · have e1 := r_tells (N := N) hc hk hl hw m n (to + 1) (a_send S c to k l 0 0 0 (S 316 (6 * c + c)) wh) (RG_send h (by omega) (by omega) (by omega) hk hl (by omega) (by omega) (by omega) hs hw) (by rw [as_1 (by omega)]; exact h1) (by rw [as_7]; omega) (by omega)
        rw [if_pos h3, if_neg (by decide)]
        simp (disch := omega) only [sr_1, sr_14, sr_70, sr_126, sr_182, sr_238, sr_244, sr_292, sr_298, sr_304, sr_310, sr_316, sr_358, sr_400, sr_442, sr_484, sr_526, sr_532, sr_538, so_586, sr_586, sr_2746, sr_2752, sr_3112, sr_3118, sr_3124, sr_3130, sr_6730, sr_6736, sr_6766, sr_6814, sr_6961, sr_6962, sr_7362, sr_7363, sr_7364, su_6961, su_7362, su_7363, e_gd, e_ix, e_oli, e_oml, e_obi, e_obv, e_add, e_mul, e_sub, e_eq, e_lt, e_le, e_eq0, e_0eq, e_lt0, e_0lt, e_le0, e_0le, e_m1, e_m1', e_m1lt, Nat.add_assoc, Nat.not_lt_zero, Nat.le_zero_eq, as_o, st_1, st_14, st_70, st_126, st_182, st_238, st_244, sm_292, so_292, st_292, st_298, st_304, st_310, st_316, st_358, st_400, st_442, st_484, st_526, st_532, sm_538, so_538, st_538, sm_586, sn_586, sp_586, st_586, st_2746, st_2752, st_3112, st_3118, st_3124, st_3130, st_6730, st_6736, st_6766, st_6814, st_6961, st_6962, st_7362, st_7363, st_7364, sv_6961, sv_7362, sv_7363, as_nw]
        rw [show n + (m + 1) = n + m + 1 from rfl, e1]
        conv => rhs; unfold a_tells
        rw [if_pos ⟨h2, h3⟩]
      · rw [if_neg h3, if_pos (by decide), e0]
        conv => rhs; unfold a_tells
        rw [if_neg (by omega)]
