/-! ===== does ===== -/
theorem fo_238 {S : a_S} {c l : Nat} : a_forget S c l 238 c = if a_used S c l = 0 then S 238 c else S 238 c - 1 := by
  unfold a_forget
  split
  · rfl
  · unfold a_shift
    rw [if_neg (by omega), sw_at]
theorem asee_o {S : a_S} {c v r i : Nat} (h : r ≠ 2746 ∧ r ≠ 2752) : a_sees S c v r i = S r i := by
  unfold a_sees
  split
  · rfl
  · rw [sw_r (by omega), sw_r (by omega)]
def a_does1 (S : a_S) (c l w v : Nat) : a_S := if w = 2 then sw S 182 (8 * c + l) v else a_sees S c (S 182 (8 * c + l))
def a_does2 (S : a_S) (c l w v : Nat) : a_S := if w = 3 then sw (a_does1 S c l w v) 182 (8 * c + l) ((S 182 (8 * c + l) + v) % 10000) else a_does1 S c l w v
def a_does (S : a_S) (c l w v : Nat) : a_S := a_use (a_does2 S c l w v) c l
theorem ad1_o {S : a_S} {c l w v r i : Nat} (h : r ≠ 2746 ∧ r ≠ 2752 ∧ r ≠ 182) : a_does1 S c l w v r i = S r i := by
  unfold a_does1
  split
  · rw [sw_r (by omega)]
  · rw [asee_o (by omega)]
theorem ad2_o {S : a_S} {c l w v r i : Nat} (h : r ≠ 2746 ∧ r ≠ 2752 ∧ r ≠ 182) : a_does2 S c l w v r i = S r i := by
  unfold a_does2
  split
  · rw [sw_r (by omega), ad1_o h]
  · rw [ad1_o h]
theorem ad2_used {S : a_S} {c l w v x : Nat} : a_used (a_does2 S c l w v) c x = a_used S c x := by
  unfold a_used
  simp (disch := omega) only [ad2_o]
theorem RG_does1 {S : a_S} {c l w v : Nat} (h : RG S) (hv : v < 10000) : RG (a_does1 S c l w v) := by
  unfold a_does1
  split
  · exact RG_sw h (by unfold rg; omega)
  · exact RG_sees h
theorem RG_does2 {S : a_S} {c l w v : Nat} (h : RG S) (hv : v < 10000) : RG (a_does2 S c l w v) := by
  unfold a_does2
  split
  · exact RG_sw (RG_does1 h hv) (by unfold rg; omega)
  · exact RG_does1 h hv
theorem RG_use {S : a_S} {c l : Nat} (h : RG S) (hl : l < 8) (h7 : a_forget S c l 238 c ≤ 7) : RG (a_use S c l) := by
  unfold a_use
  exact RG_sw (RG_sw (RG_forget h) (by unfold rg; omega)) (by unfold rg; omega)
theorem r_does {N : j_M} {S : a_S} {c l w v : Nat} (h : RG S) (hc : c < 6) (hl : l < 8) (hw : w < 4) (hv : v < 10000) (h7 : a_forget S c l 238 c ≤ 7) : xX12_does (nI c) (nI l) (nI w) (nI v) (RS N S) = some (RS N (a_does S c l w v)) := by
  have hd := g_d h 182 (8 * c + l) (Or.inl rfl)
  have h8 : a_forget (a_does2 S c l w v) c l 238 c ≤ 7 := by
    rw [fo_238, ad2_used, ad2_o (by omega), ← fo_238]; exact h7
  have e80 : xX12_does_80 (nI c) (nI l) (RS N (a_does2 S c l w v)) = some (RS N (a_does S c l w v)) := by
    unfold xX12_does_80 a_does
    rw [q_uses (RG_does2 h hv) hc hl h8, e_obv]
  have hd1 : w ≠ 2 → a_does1 S c l w v 182 (8 * c + l) = S 182 (8 * c + l) := by
    intro hw2
    unfold a_does1
    rw [if_neg hw2, asee_o (by omega)]
  have e46 : xX12_does_46 (nI c) (nI l) (nI w) (nI v) (nI (8 * c + l)) (RS N (a_does1 S c l w v)) = some (RS N (a_does S c l w v)) := by
    unfold xX12_does_46
    unfold a_does2 at e80
    simp (disch := omega) only [e_gd, e_ix, e_oli, e_oml, e_obi, e_obv, e_add, e_mul, e_sub, e_eq, e_lt, e_le, e_eq0, e_0eq, e_lt0, e_0lt, e_le0, e_0le, e_m1, e_m1', e_m1lt, Nat.add_assoc, Nat.not_lt_zero, Nat.le_zero_eq]
    by_cases h3 : w = 3
    · rw [if_pos h3] at e80 ⊢
      simp (disch := omega) only [sr_1, sr_14, sr_70, sr_126, sr_182, sr_238, sr_244, sr_292, sr_298, sr_304, sr_310, sr_316, sr_358, sr_400, sr_442, sr_484, sr_526, sr_532, sr_538, so_586, sr_586, sr_2746, sr_2752, sr_3112, sr_3118, sr_3124, sr_3130, sr_6730, sr_6736, sr_6766, sr_6814, sr_6961, sr_6962, sr_7362, sr_7363, sr_7364, su_6961, su_7362, su_7363, e_gd, e_ix, e_oli, e_oml, e_obi, e_obv, e_add, e_mul, e_sub, e_eq, e_lt, e_le, e_eq0, e_0eq, e_lt0, e_0lt, e_le0, e_0le, e_m1, e_m1', e_m1lt, Nat.add_assoc, Nat.not_lt_zero, Nat.le_zero_eq, hd1, e_gn, e_rem, st_1, st_14, st_70, st_126, st_182, st_238, st_244, sm_292, so_292, st_292, st_298, st_304, st_310, st_316, st_358, st_400, st_442, st_484, st_526, st_532, sm_538, so_538, st_538, sm_586, sn_586, sp_586, st_586, st_2746, st_2752, st_3112, st_3118, st_3124, st_3130, st_6730, st_6736, st_6766, st_6814, st_6961, st_6962, st_7362, st_7363, st_7364, sv_6961, sv_7362, sv_7363]
      exact e80
    · rw [if_neg h3] at e80 ⊢
      exact e80
  unfold xX12_does
  unfold a_does1 at e46
  simp (disch := omega) only [m_place, e_gd, e_ix, e_oli, e_oml, e_obi, e_obv, e_add, e_mul, e_sub, e_eq, e_lt, e_le, e_eq0, e_0eq, e_lt0, e_0lt, e_le0, e_0le, e_m1, e_m1', e_m1lt, Nat.add_assoc, Nat.not_lt_zero, Nat.le_zero_eq, sr_1, sr_14, sr_70, sr_126, sr_182, sr_238, sr_244, sr_292, sr_298, sr_304, sr_310, sr_316, sr_358, sr_400, sr_442, sr_484, sr_526, sr_532, sr_538, so_586, sr_586, sr_2746, sr_2752, sr_3112, sr_3118, sr_3124, sr_3130, sr_6730, sr_6736, sr_6766, sr_6814, sr_6961, sr_6962, sr_7362, sr_7363, sr_7364, su_6961, su_7362, su_7363, xX12_does_28, r_sees h hc, st_1, st_14, st_70, st_126, st_182, st_238, st_244, sm_292, so_292, st_292, st_298, st_304, st_310, st_316, st_358, st_400, st_442, st_484, st_526, st_532, sm_538, so_538, st_538, sm_586, sn_586, sp_586, st_586, st_2746, st_2752, st_3112, st_3118, st_3124, st_3130, st_6730, st_6736, st_6766, st_6814, st_6961, st_6962, st_7362, st_7363, st_7364, sv_6961, sv_7362, sv_7363]
  by_cases h2 : w = 2
  · rw [if_pos h2] at e46 ⊢
    rw [if_pos h2]
    exact e46
  · rw [if_neg h2] at e46 ⊢
    rw [if_neg h2]
    exact e46
