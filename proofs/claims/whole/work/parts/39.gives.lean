/-! ===== tokens are given ===== -/
def a_gives0 (S : a_S) (nd t l mn ow da : Nat) : a_S := sw (a_send S nd t 3 l mn ow (if da = 0 then 0 else S 182 (8 * nd + l) + 1) 0 0) 14 (8 * nd + l) (S 14 (8 * nd + l) - mn)
def a_gives1 (S : a_S) (nd t l mn ow da : Nat) : a_S := if ow = 0 then a_gives0 S nd t l mn ow da else sw (a_gives0 S nd t l mn ow da) 70 (8 * nd + l) 0
def a_gives2 (S : a_S) (nd t l mn ow da : Nat) : a_S := sw (sw (a_gives1 S nd t l mn ow da) 126 (8 * nd + l) 0) 182 (8 * nd + l) 0
def a_gives (S : a_S) (nd t l mn ow da : Nat) : a_S := if S 14 (8 * nd + l) - mn = 0 then (if nd = 6 then a_gives2 S nd t l mn ow da else a_forget (a_gives2 S nd t l mn ow da) nd l) else a_gives1 S nd t l mn ow da
theorem ag1_o {S : a_S} {nd t l mn ow da r i : Nat} (h : r ≠ 586 ∧ r ≠ 1 ∧ r ≠ 6814 ∧ r ≠ 14 ∧ r ≠ 70) : a_gives1 S nd t l mn ow da r i = S r i := by
  unfold a_gives1 a_gives0
  split
  · rw [sw_r (by omega), as_o (by omega)]
  · rw [sw_r (by omega), sw_r (by omega), as_o (by omega)]
theorem ag1_c {S : a_S} {nd t l mn ow da : Nat} : a_gives1 S nd t l mn ow da 14 (8 * nd + l) = S 14 (8 * nd + l) - mn := by
  unfold a_gives1 a_gives0
  split
  · rw [sw_at]
  · rw [sw_r (by omega), sw_at]
theorem ag2_o {S : a_S} {nd t l mn ow da r i : Nat} (h : r ≠ 586 ∧ r ≠ 1 ∧ r ≠ 6814 ∧ r ≠ 14 ∧ r ≠ 70 ∧ r ≠ 126 ∧ r ≠ 182) : a_gives2 S nd t l mn ow da r i = S r i := by
  unfold a_gives2
  rw [sw_r (by omega), sw_r (by omega), ag1_o (by omega)]
theorem r_gives {N : j_M} {S : a_S} {nd t l mn ow da : Nat} (hq : S 1 7 < 240) (hd : nd < 7) (ht : t < 7) (hl : l < 8) (how : ow < 2) (hda : da < 2) (hm : mn ≤ S 14 (8 * nd + l)) (hc : S 14 (8 * nd + l) < 100) (hdt : S 182 (8 * nd + l) < 10000) (hU : nd < 6 → S 238 nd ≤ 8) (ha : ∀ i, i < 48 → S 244 i < 8) : xX12_gives (nI nd) (nI t) (nI l) (nI mn) (nI ow) (nI da) (RS N S) = some (RS N (a_gives S nd t l mn ow da)) := by
  have e82 : xX12_gives_82 (nI nd) (nI l) (nI (8 * nd + l)) (RS N (a_gives1 S nd t l mn ow da)) = some (RS N (a_gives S nd t l mn ow da)) := by
    unfold xX12_gives_82
    simp (disch := omega) only [e_gd, e_ix, e_oli, e_oml, e_obi, e_obv, e_add, e_mul, e_sub, e_eq, e_lt, e_le, e_eq0, e_0eq, e_lt0, e_0lt, e_le0, e_0le, e_m1, e_m1', e_m1lt, Nat.add_assoc, Nat.not_lt_zero, Nat.le_zero_eq, sr_1, sr_14, sr_70, sr_126, sr_182, sr_238, sr_244, sr_292, sr_298, sr_304, sr_310, sr_316, sr_358, sr_400, sr_442, sr_484, sr_526, sr_532, sr_538, so_586, sr_586, sr_2746, sr_2752, sr_3112, sr_3118, sr_3124, sr_3130, sr_6730, sr_6736, sr_6766, sr_6814, sr_6961, sr_6962, sr_7362, sr_7363, sr_7364, su_6961, su_7362, su_7363, st_1, st_14, st_70, st_126, st_182, st_238, st_244, sm_292, so_292, st_292, st_298, st_304, st_310, st_316, st_358, st_400, st_442, st_484, st_526, st_532, sm_538, so_538, st_538, sm_586, sn_586, sp_586, st_586, st_2746, st_2752, st_3112, st_3118, st_3124, st_3130, st_6730, st_6736, st_6766, st_6814, st_6961, st_6962, st_7362, st_7363, st_7364, sv_6961, sv_7362, sv_7363, ag1_c]
    unfold a_gives
    by_cases h1 : S 14 (8 * nd + l) - mn = 0
    · rw [if_pos h1, if_pos h1]
      by_cases h2 : nd = 6
      · rw [if_pos h2, if_pos h2]; rfl
      · rw [if_neg h2, if_neg h2]
        have e := r_forgets (N := N) (S := a_gives2 S nd t l mn ow da) (c := nd) (l := l) (by rw [ag2_o (by omega)]; exact hU (by omega)) (by omega) hl (fun i hi => by rw [ag2_o (by omega)]; exact ha i hi)
        unfold a_gives2 at e ⊢
        rw [e, e_obv]
    · rw [if_neg h1, if_neg h1]
  have e48 : xX12_gives_48 (nI nd) (nI l) (nI mn) (nI ow) (nI (8 * nd + l)) (nI (586 + 9 * S 1 7)) (nI mn) (nI ow) (oI (if da = 0 then 0 else S 182 (8 * nd + l) + 1)) (RS N (a_send S nd t 3 l 0 0 0 0 0)) = some (RS N (a_gives S nd t l mn ow da)) := by
    unfold xX12_gives_48
    rw [r_brings hq hd ht (by split <;> omega)]
    simp (disch := omega) only [e_gd, e_ix, e_oli, e_oml, e_obi, e_obv, e_add, e_mul, e_sub, e_eq, e_lt, e_le, e_eq0, e_0eq, e_lt0, e_0lt, e_le0, e_0le, e_m1, e_m1', e_m1lt, Nat.add_assoc, Nat.not_lt_zero, Nat.le_zero_eq, sr_1, sr_14, sr_70, sr_126, sr_182, sr_238, sr_244, sr_292, sr_298, sr_304, sr_310, sr_316, sr_358, sr_400, sr_442, sr_484, sr_526, sr_532, sr_538, so_586, sr_586, sr_2746, sr_2752, sr_3112, sr_3118, sr_3124, sr_3130, sr_6730, sr_6736, sr_6766, sr_6814, sr_6961, sr_6962, sr_7362, sr_7363, sr_7364, su_6961, su_7362, su_7363, as_o]
    simp (disch := omega) only [e_sub, st_1, st_14, st_70, st_126, st_182, st_238, st_244, sm_292, so_292, st_292, st_298, st_304, st_310, st_316, st_358, st_400, st_442, st_484, st_526, st_532, sm_538, so_538, st_538, sm_586, sn_586, sp_586, st_586, st_2746, st_2752, st_3112, st_3118, st_3124, st_3130, st_6730, st_6736, st_6766, st_6814, st_6961, st_6962, st_7362, st_7363, st_7364, sv_6961, sv_7362, sv_7363]
    unfold a_gives1 at e82
    by_cases h1 : ow = 0
    · rw [if_pos h1] at e82 ⊢
      exact e82
    · rw [if_neg h1] at e82 ⊢
      exact e82
  unfold xX12_gives
  rw [m_place, e_obi, r_sends hq hd ht, e_obi]
  have e28 : ∀ z, z = ow → xX12_gives_28 (nI nd) (nI l) (nI mn) (nI ow) (nI da) (nI (8 * nd + l)) (nI (586 + 9 * S 1 7)) (nI mn) (nI z) (RS N (a_send S nd t 3 l 0 0 0 0 0)) = some (RS N (a_gives S nd t l mn ow da)) := by
    intro z hz
    subst hz
    unfold xX12_gives_28
    simp (disch := omega) only [e_gd, e_ix, e_oli, e_oml, e_obi, e_obv, e_add, e_mul, e_sub, e_eq, e_lt, e_le, e_eq0, e_0eq, e_lt0, e_0lt, e_le0, e_0le, e_m1, e_m1', e_m1lt, Nat.add_assoc, Nat.not_lt_zero, Nat.le_zero_eq, sr_1, sr_14, sr_70, sr_126, sr_182, sr_238, sr_244, sr_292, sr_298, sr_304, sr_310, sr_316, sr_358, sr_400, sr_442, sr_484, sr_526, sr_532, sr_538, so_586, sr_586, sr_2746, sr_2752, sr_3112, sr_3118, sr_3124, sr_3130, sr_6730, sr_6736, sr_6766, sr_6814, sr_6961, sr_6962, sr_7362, sr_7363, sr_7364, su_6961, su_7362, su_7363, as_o]
    by_cases h1 : da = 0
    · rw [if_pos h1] at e48 ⊢
      exact e48
    · rw [if_neg h1] at e48 ⊢
      exact e48
  simp (disch := omega) only [e_eq0]
  by_cases h1 : ow = 0
  · rw [if_pos h1, e28 0 (by omega)]
  · rw [if_neg h1, e28 1 (by omega)]
def a_givesAll (S : a_S) (nd t l : Nat) : a_S := a_gives S nd t l (S 14 (8 * nd + l)) (S 70 (8 * nd + l)) (S 70 (8 * nd + l))
theorem r_givesAll {N : j_M} {S : a_S} {nd t l : Nat} (hq : S 1 7 < 240) (hd : nd < 7) (ht : t < 7) (hl : l < 8) (how : S 70 (8 * nd + l) < 2) (hc : S 14 (8 * nd + l) < 100) (hdt : S 182 (8 * nd + l) < 10000) (hU : nd < 6 → S 238 nd ≤ 8) (ha : ∀ i, i < 48 → S 244 i < 8) : xX12_givesAll (nI nd) (nI t) (nI l) (RS N S) = some (RS N (a_givesAll S nd t l)) := by
  have e : ∀ z, z = S 70 (8 * nd + l) → xX12_givesAll_22 (nI nd) (nI t) (nI l) (nI z) (RS N S) = some (RS N (a_givesAll S nd t l)) := by
    intro z hz
    subst hz
    unfold xX12_givesAll_22 a_givesAll
    simp (disch := omega) only [m_place, e_gd, e_ix, e_oli, e_oml, e_obi, e_obv, e_add, e_mul, e_sub, e_eq, e_lt, e_le, e_eq0, e_0eq, e_lt0, e_0lt, e_le0, e_0le, e_m1, e_m1', e_m1lt, Nat.add_assoc, Nat.not_lt_zero, Nat.le_zero_eq, sr_1, sr_14, sr_70, sr_126, sr_182, sr_238, sr_244, sr_292, sr_298, sr_304, sr_310, sr_316, sr_358, sr_400, sr_442, sr_484, sr_526, sr_532, sr_538, so_586, sr_586, sr_2746, sr_2752, sr_3112, sr_3118, sr_3124, sr_3130, sr_6730, sr_6736, sr_6766, sr_6814, sr_6961, sr_6962, sr_7362, sr_7363, sr_7364, su_6961, su_7362, su_7363]
    rw [r_gives hq hd ht hl how how (Nat.le_refl _) hc hdt hU ha, e_obv]
  unfold xX12_givesAll
  simp (disch := omega) only [m_place, e_gd, e_ix, e_oli, e_oml, e_obi, e_obv, e_add, e_mul, e_sub, e_eq, e_lt, e_le, e_eq0, e_0eq, e_lt0, e_0lt, e_le0, e_0le, e_m1, e_m1', e_m1lt, Nat.add_assoc, Nat.not_lt_zero, Nat.le_zero_eq, sr_1, sr_14, sr_70, sr_126, sr_182, sr_238, sr_244, sr_292, sr_298, sr_304, sr_310, sr_316, sr_358, sr_400, sr_442, sr_484, sr_526, sr_532, sr_538, so_586, sr_586, sr_2746, sr_2752, sr_3112, sr_3118, sr_3124, sr_3130, sr_6730, sr_6736, sr_6766, sr_6814, sr_6961, sr_6962, sr_7362, sr_7363, sr_7364, su_6961, su_7362, su_7363]
  by_cases h1 : S 70 (8 * nd + l) = 1
  · rw [if_pos h1, e 1 (by omega)]
  · rw [if_neg h1, e 0 (by omega)]
def a_settles (S : a_S) (nd l : Nat) : a_S :=
  if a_turn S nd l = 0 ∨ a_turn S nd l = nd + 1 ∨ S 14 (8 * nd + l) = 0 then S
  else if S 442 (6 * nd + (a_turn S nd l - 1)) = 2 then a_givesAll S nd (a_turn S nd l - 1) l
  else if 1 < S 14 (8 * nd + l) then a_gives S nd (a_turn S nd l - 1) l (S 14 (8 * nd + l) - 1) (S 70 (8 * nd + l)) (S 70 (8 * nd + l))
  else if S 70 (8 * nd + l) = 0 then S else a_givesAll S nd (a_turn S nd l - 1) l
theorem r_settles {N : j_M} {S : a_S} {nd l : Nat} (hN : S 1 0 ≤ 6) (hta : ∀ i, i < 42 → S 358 i < 2) (htl : ∀ i, i < 42 → S 400 i < 8) (htw : ∀ i, i < 42 → S 442 i < 4) (hq : S 1 7 < 240) (hd : nd < 7) (hl : l < 8) (how : S 70 (8 * nd + l) < 2) (hc : S 14 (8 * nd + l) < 100) (hdt : S 182 (8 * nd + l) < 10000) (hU : nd < 6 → S 238 nd ≤ 8) (ha : ∀ i, i < 48 → S 244 i < 8) : xX12_settles (nI nd) (nI l) (RS N S) = some (RS N (a_settles S nd l)) := by
  have h1 : a_turn S nd l ≤ S 1 0 := by have := fr_le (P := fun c => S 358 (6 * nd + c) = 1 ∧ S 400 (6 * nd + c) = l) (S 1 0) 0; unfold a_turn; omega
  unfold xX12_settles a_settles
  rw [r_turn hN hd hl hta htl, e_obi, m_place, e_obi]
  by_cases h0 : a_turn S nd l = 0
  · simp (disch := omega) only [oI_m1, h0, true_or, if_true]
  · obtain ⟨u, hu⟩ : ∃ u, a_turn S nd l = u + 1 := ⟨a_turn S nd l - 1, by omega⟩
    have w1 := htw (6 * nd + u) (by omega)
    rw [hu, oI_s, Nat.add_sub_cancel]
    have e : ∀ z, z = S 70 (8 * nd + l) → S 14 (8 * nd + l) ≠ 0 → xX12_settles_57 (nI nd) (nI l) (nI u) (nI (8 * nd + l)) (nI z) (RS N S) = some (RS N (if S 442 (6 * nd + u) = 2 then a_givesAll S nd u l
  else if 1 < S 14 (8 * nd + l) then a_gives S nd u l (S 14 (8 * nd + l) - 1) (S 70 (8 * nd + l)) (S 70 (8 * nd + l))
  else if S 70 (8 * nd + l) = 0 then S else a_givesAll S nd u l)) := by
      intro z hz hcn
      subst hz
      unfold xX12_settles_57
      simp (disch := omega) only [e_gd, e_ix, e_oli, e_oml, e_obi, e_obv, e_add, e_mul, e_sub, e_eq, e_lt, e_le, e_eq0, e_0eq, e_lt0, e_0lt, e_le0, e_0le, e_m1, e_m1', e_m1lt, Nat.add_assoc, Nat.not_lt_zero, Nat.le_zero_eq, sr_1, sr_14, sr_70, sr_126, sr_182, sr_238, sr_244, sr_292, sr_298, sr_304, sr_310, sr_316, sr_358, sr_400, sr_442, sr_484, sr_526, sr_532, sr_538, so_586, sr_586, sr_2746, sr_2752, sr_3112, sr_3118, sr_3124, sr_3130, sr_6730, sr_6736, sr_6766, sr_6814, sr_6961, sr_6962, sr_7362, sr_7363, sr_7364, su_6961, su_7362, su_7363, r_givesAll hq hd (show u < 7 by omega) hl how hc hdt hU ha, r_gives hq hd (show u < 7 by omega) hl how how (Nat.sub_le _ 1) hc hdt hU ha]
      (repeat' split) <;> first | rfl | omega
    simp (disch := omega) only [e_gd, e_ix, e_oli, e_oml, e_obi, e_obv, e_add, e_mul, e_sub, e_eq, e_lt, e_le, e_eq0, e_0eq, e_lt0, e_0lt, e_le0, e_0le, e_m1, e_m1', e_m1lt, Nat.add_assoc, Nat.not_lt_zero, Nat.le_zero_eq, sr_1, sr_14, sr_70, sr_126, sr_182, sr_238, sr_244, sr_292, sr_298, sr_304, sr_310, sr_316, sr_358, sr_400, sr_442, sr_484, sr_526, sr_532, sr_538, so_586, sr_586, sr_2746, sr_2752, sr_3112, sr_3118, sr_3124, sr_3130, sr_6730, sr_6736, sr_6766, sr_6814, sr_6961, sr_6962, sr_7362, sr_7363, sr_7364, su_6961, su_7362, su_7363, if_false]
    by_cases h2 : u = nd
    · rw [if_pos h2, if_pos (by omega)]
    · rw [if_neg h2]
      by_cases h3 : S 14 (8 * nd + l) = 0
      · rw [if_pos h3, if_pos (by omega)]
      · have h5 : ¬ (u + 1 = 0 ∨ u + 1 = nd + 1 ∨ S 14 (8 * nd + l) = 0) := by omega
        rw [if_neg h3, if_neg h5]
        by_cases h4 : S 70 (8 * nd + l) = 1
        · rw [if_pos h4, e 1 (by omega) h3]
        · rw [if_neg h4, e 0 (by omega) h3]
