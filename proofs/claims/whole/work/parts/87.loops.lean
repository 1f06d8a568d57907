/-! ===== where, worth, look ===== -/
def a_set (P : Nat → Prop) [DecidablePred P] : Nat → Nat → Nat → Nat
  | 0, _, s => s
  | m + 1, k, s => a_set P m (k + 1) (if P k then s ||| 2 ^ k else s)
theorem set_s {P : Nat → Prop} [DecidablePred P] {m k s : Nat} : a_set P (m + 1) k s = a_set P m (k + 1) (if P k then s ||| 2 ^ k else s) := rfl
theorem x_owner_l {N : j_M} {S : a_S} {l : Nat} (h : RG S) (hl : l < 8) : ∀ (m n k : Nat), k + m = 7 → xX1_ownerNode_2 2 (n + m + 1) (nI l) (nI k) (XS N 2 S) = some (oI (fr (fun x => S 70 (8 * x + l) = 1) m k), XS N 2 S)
  | 0, n, k, hk => by
    rw [show n + 0 + 1 = n + 1 from rfl, xX1_ownerNode_2.eq_2]
    simp (disch := omega) only [e_gd, e_ix, e_oli2, e_oml2, e_obi2, e_obv2, e_add, e_mul, e_sub, e_eq, e_lt, e_le, e_eq0, e_0eq, e_lt0, e_0lt, e_le0, e_0le, e_m1, e_m1', e_m1lt, Nat.add_assoc, Nat.not_lt_zero, Nat.le_zero_eq, if_pos]
    rfl
  | m + 1, n, k, hk => by
    have g := g_hv h (8 * k + l)
    rw [show n + (m + 1) + 1 = (n + m + 1) + 1 by omega, xX1_ownerNode_2.eq_2, fr_s, x_held (by omega) hl, e_obi2, ho_ h, e_obi2, e_add, x_owner_l h hl m n (k + 1) (by omega), f_eq0 (by omega), f_le (by omega) (by omega), if_neg (by omega)]
    by_cases h1 : S 70 (8 * k + l) = 1
    · rw [if_neg (by omega), if_pos h1]; rfl
    · rw [if_pos (by omega), if_neg h1]
theorem x_owner {N : j_M} {S : a_S} {l : Nat} (h : RG S) (hl : l < 8) : xX1_ownerNode 2 (nI l) (XS N 2 S) = some (oI (fr (fun x => S 70 (8 * x + l) = 1) 7 0), XS N 2 S) := by
  have e := x_owner_l (N := N) h hl 7 (1000000 - 8) 0 (by omega)
  rw [show 1000000 - 8 + 7 + 1 = fu by unfold fu; omega] at e
  exact e
theorem r_owner {N : j_M} {S : a_S} {l : Nat} (h : RG S) (hl : l < 8) : ∀ (m n k : Nat), k + m = 7 → xX12_ownerAt_2 (n + m + 1) (nI l) (nI k) (RS N S) = some (oI (fr (fun x => S 70 (8 * x + l) = 1) m k), RS N S)
  | 0, n, k, hk => by
    rw [show n + 0 + 1 = n + 1 from rfl, xX12_ownerAt_2.eq_2]
    simp (disch := omega) only [e_gd, e_ix, e_oli2, e_oml2, e_obi2, e_obv2, e_add, e_mul, e_sub, e_eq, e_lt, e_le, e_eq0, e_0eq, e_lt0, e_0lt, e_le0, e_0le, e_m1, e_m1', e_m1lt, Nat.add_assoc, Nat.not_lt_zero, Nat.le_zero_eq, if_pos]
    rfl
  | m + 1, n, k, hk => by
    have g := g_hv h (8 * k + l)
    rw [show n + (m + 1) + 1 = (n + m + 1) + 1 by omega, xX12_ownerAt_2.eq_2, fr_s, m_place, e_obi2]
    simp (disch := omega) only [e_gd, e_ix, e_oli2, e_oml2, e_obi2, e_obv2, e_add, e_mul, e_sub, e_eq, e_lt, e_le, e_eq0, e_0eq, e_lt0, e_0lt, e_le0, e_0le, e_m1, e_m1', e_m1lt, Nat.add_assoc, Nat.not_lt_zero, Nat.le_zero_eq, sr_1, sr_14, sr_70, sr_126, sr_182, sr_238, sr_244, sr_292, sr_298, sr_304, sr_310, sr_316, sr_358, sr_400, sr_442, sr_484, sr_526, sr_532, sr_538, so_586, sr_586, sr_2746, sr_2752, sr_3112, sr_3118, sr_3124, sr_3130, sr_6730, sr_6736, sr_6766, sr_6814, sr_6961, sr_6962, sr_7362, sr_7363, sr_7364, su_6961, su_7362, su_7363]
    rw [show n + (m + 1) = n + m + 1 from rfl, r_owner h hl m n (k + 1) (by omega), if_neg (by omega)]
    by_cases h1 : S 70 (8 * k + l) = 1
    · rw [if_pos h1, if_pos h1]; rfl
    · rw [if_neg h1, if_neg h1]
theorem x_can_l {N : j_M} {S : a_S} {l : Nat} (hi : INV S z0) (hl : l < 8) : ∀ (m n k s : Nat), k + m = S 1 0 → xX1_cpusThatCan_5 2 (n + m + 1) (nI l) (nI 1) (nI s) (nI k) (XS N 2 S) = some (nI (a_set (fun c => a_H S c l 1) m k s), XS N 2 S)
  | 0, n, k, s, hk => by
    have hn := g_n hi.1
    rw [show n + 0 + 1 = n + 1 from rfl, xX1_cpusThatCan_5.eq_2]
    simp (disch := omega) only [e_gd, e_ix, e_oli2, e_oml2, e_obi2, e_obv2, e_add, e_mul, e_sub, e_eq, e_lt, e_le, e_eq0, e_0eq, e_lt0, e_0lt, e_le0, e_0le, e_m1, e_m1', e_m1lt, Nat.add_assoc, Nat.not_lt_zero, Nat.le_zero_eq, Nat.reduceAdd, xr_4, xr_5, xr_6, xr_7, xr_13, xr_14, xr_3, xr_10, xr_11, xr_12, xr_15, xr_16, xr_17, xr_18, xr_19, xr_0_8, xr_0_9, xr_0_10, xr_0_11, xr_0_12, xr_0_13, xr_0_14, xr_8_11, xr_8_12, xr_8_13, xr_8_14, xr_h, xr_e, xr_u, xr_m, xr_2, xr_9, if_pos]
    rfl
  | m + 1, n, k, s, hk => by
    have hn := g_n hi.1
    have hT := TK_le hi (show k < 7 by omega) hl
    have ih := fun s => x_can_l (N := N) hi hl m n (k + 1) s (by omega)
    rw [show n + (m + 1) + 1 = (n + m + 1) + 1 by omega, xX1_cpusThatCan_5.eq_2, set_s]
    simp (disch := omega) only [e_gd, e_ix, e_oli2, e_oml2, e_obi2, e_obv2, e_add, e_mul, e_sub, e_eq, e_lt, e_le, e_eq0, e_0eq, e_lt0, e_0lt, e_le0, e_0le, e_m1, e_m1', e_m1lt, Nat.add_assoc, Nat.not_lt_zero, Nat.le_zero_eq, Nat.reduceAdd, xr_4, xr_5, xr_6, xr_7, xr_13, xr_14, xr_3, xr_10, xr_11, xr_12, xr_15, xr_16, xr_17, xr_18, xr_19, xr_0_8, xr_0_9, xr_0_10, xr_0_11, xr_0_12, xr_0_13, xr_0_14, xr_8_11, xr_8_12, xr_8_13, xr_8_14, xr_h, xr_e, xr_u, xr_m, xr_2, xr_9, x_wouldHit (N := N) (t := 2) hi.1 (show k < 7 by omega) hl (show 1 < 4 by omega) (show S 14 (8 * k + l) ≤ S 1 1 by omega), e_bit, e_or]
    rw [show n + (m + 1) = n + m + 1 from rfl, ih, ih, if_neg (by omega)]
    by_cases h1 : a_H S k l 1
    · rw [if_pos h1, if_pos h1, if_neg (show ¬ nI 1 = (0 : Int32) by decide)]
    · rw [if_neg h1, if_neg h1, if_pos (show nI 0 = (0 : Int32) by decide)]
theorem r_set_l {N : j_M} {S : a_S} {l : Nat} (hi : INV S z0) (hl : l < 8) : ∀ (m n k s : Nat), k + m = S 1 0 → xX12_setOf_5 (n + m + 1) (nI l) (nI 0) (nI s) (nI k) (RS N S) = some (nI (a_set (fun c => a_H S c l 1) m k s), RS N S) ∧ xX12_setOf_5 (n + m + 1) (nI l) (nI 1) (nI s) (nI k) (RS N S) = some (nI (a_set (fun c => S 292 c = l + 1) m k s), RS N S)
  | 0, n, k, s, hk => by
    have hn := g_n hi.1
    rw [show n + 0 + 1 = n + 1 from rfl, xX12_setOf_5.eq_2, xX12_setOf_5.eq_2]
    simp (disch := omega) only [e_gd, e_ix, e_oli2, e_oml2, e_obi2, e_obv2, e_add, e_mul, e_sub, e_eq, e_lt, e_le, e_eq0, e_0eq, e_lt0, e_0lt, e_le0, e_0le, e_m1, e_m1', e_m1lt, Nat.add_assoc, Nat.not_lt_zero, Nat.le_zero_eq, sr_1, sr_14, sr_70, sr_126, sr_182, sr_238, sr_244, sr_292, sr_298, sr_304, sr_310, sr_316, sr_358, sr_400, sr_442, sr_484, sr_526, sr_532, sr_538, so_586, sr_586, sr_2746, sr_2752, sr_3112, sr_3118, sr_3124, sr_3130, sr_6730, sr_6736, sr_6766, sr_6814, sr_6961, sr_6962, sr_7362, sr_7363, sr_7364, su_6961, su_7362, su_7363, if_pos]
    exact ⟨rfl, rfl⟩
  | m + 1, n, k, s, hk => by
    have hn := g_n hi.1
    have g := g_mv hi.1 k
    have ih := fun s => r_set_l (N := N) hi hl m n (k + 1) s (by omega)
    have i1 := fun s => (ih s).1
    have i2 := fun s => (ih s).2
    have c1 : ¬ S 1 0 ≤ k := by omega
    constructor
    · rw [show n + (m + 1) + 1 = (n + m + 1) + 1 by omega, xX12_setOf_5.eq_2, set_s]
      unfold xX12_setOf_49
      simp (disch := omega) only [e_gd, e_ix, e_oli2, e_oml2, e_obi2, e_obv2, e_add, e_mul, e_sub, e_eq, e_lt, e_le, e_eq0, e_0eq, e_lt0, e_0lt, e_le0, e_0le, e_m1, e_m1', e_m1lt, Nat.add_assoc, Nat.not_lt_zero, Nat.le_zero_eq, sr_1, sr_14, sr_70, sr_126, sr_182, sr_238, sr_244, sr_292, sr_298, sr_304, sr_310, sr_316, sr_358, sr_400, sr_442, sr_484, sr_526, sr_532, sr_538, so_586, sr_586, sr_2746, sr_2752, sr_3112, sr_3118, sr_3124, sr_3130, sr_6730, sr_6736, sr_6766, sr_6814, sr_6961, sr_6962, sr_7362, sr_7363, sr_7364, su_6961, su_7362, su_7363, q_isHit (N := N) hi.1 (show k < 7 by omega) hl (show 1 < 4 by omega), e_bit, e_or, if_true]
      rw [show n + (m + 1) = n + m + 1 from rfl, i1, i1, if_neg c1]
      by_cases h1 : a_H S k l 1
      · rw [if_pos h1, if_pos h1, if_neg (show ¬ nI 1 = (0 : Int32) by decide)]
      · rw [if_neg h1, if_neg h1, if_pos (show nI 0 = (0 : Int32) by decide)]
    · rw [show n + (m + 1) + 1 = (n + m + 1) + 1 by omega, xX12_setOf_5.eq_2, set_s]
      unfold xX12_setOf_49
      simp (disch := omega) only [e_gd, e_ix, e_oli2, e_oml2, e_obi2, e_obv2, e_add, e_mul, e_sub, e_eq, e_lt, e_le, e_eq0, e_0eq, e_lt0, e_0lt, e_le0, e_0le, e_m1, e_m1', e_m1lt, Nat.add_assoc, Nat.not_lt_zero, Nat.le_zero_eq, sr_1, sr_14, sr_70, sr_126, sr_182, sr_238, sr_244, sr_292, sr_298, sr_304, sr_310, sr_316, sr_358, sr_400, sr_442, sr_484, sr_526, sr_532, sr_538, so_586, sr_586, sr_2746, sr_2752, sr_3112, sr_3118, sr_3124, sr_3130, sr_6730, sr_6736, sr_6766, sr_6814, sr_6961, sr_6962, sr_7362, sr_7363, sr_7364, su_6961, su_7362, su_7363, e_bit, e_or, oI_eq]
      rw [show n + (m + 1) = n + m + 1 from rfl, i2, i2, if_neg c1, if_neg (show ¬ 1 = 0 by omega)]
      by_cases h1 : S 292 k = l + 1
      · rw [if_pos h1, if_pos h1]
      · rw [if_neg h1, if_neg h1]
theorem x_mis_l {N : j_M} {S : a_S} {l : Nat} (hi : INV S z0) (hl : l < 8) : ∀ (m n k s : Nat), k + m = S 1 0 → xX1_cpusThatMiss_4 2 (n + m + 1) (nI l) (nI s) (nI k) (XS N 2 S) = some (nI (a_set (fun c => S 292 c = l + 1) m k s), XS N 2 S)
  | 0, n, k, s, hk => by
    have hn := g_n hi.1
    rw [show n + 0 + 1 = n + 1 from rfl, xX1_cpusThatMiss_4.eq_2]
    simp (disch := omega) only [e_gd, e_ix, e_oli2, e_oml2, e_obi2, e_obv2, e_add, e_mul, e_sub, e_eq, e_lt, e_le, e_eq0, e_0eq, e_lt0, e_0lt, e_le0, e_0le, e_m1, e_m1', e_m1lt, Nat.add_assoc, Nat.not_lt_zero, Nat.le_zero_eq, Nat.reduceAdd, xr_4, xr_5, xr_6, xr_7, xr_13, xr_14, xr_3, xr_10, xr_11, xr_12, xr_15, xr_16, xr_17, xr_18, xr_19, xr_0_8, xr_0_9, xr_0_10, xr_0_11, xr_0_12, xr_0_13, xr_0_14, xr_8_11, xr_8_12, xr_8_13, xr_8_14, xr_h, xr_e, xr_u, xr_m, xr_2, xr_9, if_pos]
    rfl
  | m + 1, n, k, s, hk => by
    have hn := g_n hi.1
    have g := g_mv hi.1 k
    have ih := fun s => x_mis_l (N := N) hi hl m n (k + 1) s (by omega)
    rw [show n + (m + 1) + 1 = (n + m + 1) + 1 by omega, xX1_cpusThatMiss_4.eq_2, set_s]
    simp (disch := omega) only [e_gd, e_ix, e_oli2, e_oml2, e_obi2, e_obv2, e_add, e_mul, e_sub, e_eq, e_lt, e_le, e_eq0, e_0eq, e_lt0, e_0lt, e_le0, e_0le, e_m1, e_m1', e_m1lt, Nat.add_assoc, Nat.not_lt_zero, Nat.le_zero_eq, Nat.reduceAdd, xr_4, xr_5, xr_6, xr_7, xr_13, xr_14, xr_3, xr_10, xr_11, xr_12, xr_15, xr_16, xr_17, xr_18, xr_19, xr_0_8, xr_0_9, xr_0_10, xr_0_11, xr_0_12, xr_0_13, xr_0_14, xr_8_11, xr_8_12, xr_8_13, xr_8_14, xr_h, xr_e, xr_u, xr_m, xr_2, xr_9, x_missed (N := N) (t := 2) hi.1 hi.2.2.2.2.2.2.2.1 (show k < 6 by omega), oI_eq, e_bit, e_or]
    rw [show n + (m + 1) = n + m + 1 from rfl, ih, ih, if_neg (by omega)]
    by_cases h1 : S 292 k = l + 1
    · rw [if_pos h1, if_pos h1]
    · rw [if_neg h1, if_neg h1]
theorem x_wri_l {N : j_M} {S : a_S} {l : Nat} (hi : INV S z0) (hl : l < 8) : ∀ (m n k : Nat), k + m = S 1 0 → xX1_writerOf_2 2 (n + m + 1) (nI l) (nI k) (XS N 2 S) = some (oI (fr (fun c => a_H S c l 2) m k), XS N 2 S) ∧ ∀ N' : j_M, xX12_storer_2 (n + m + 1) (nI l) (nI k) (RS N' S) = some (oI (fr (fun c => a_H S c l 2) m k), RS N' S)
  | 0, n, k, hk => by
    have hn := g_n hi.1
    refine ⟨?_, fun N' => ?_⟩
    · rw [show n + 0 + 1 = n + 1 from rfl, xX1_writerOf_2.eq_2]
      simp (disch := omega) only [e_gd, e_ix, e_oli2, e_oml2, e_obi2, e_obv2, e_add, e_mul, e_sub, e_eq, e_lt, e_le, e_eq0, e_0eq, e_lt0, e_0lt, e_le0, e_0le, e_m1, e_m1', e_m1lt, Nat.add_assoc, Nat.not_lt_zero, Nat.le_zero_eq, Nat.reduceAdd, xr_4, xr_5, xr_6, xr_7, xr_13, xr_14, xr_3, xr_10, xr_11, xr_12, xr_15, xr_16, xr_17, xr_18, xr_19, xr_0_8, xr_0_9, xr_0_10, xr_0_11, xr_0_12, xr_0_13, xr_0_14, xr_8_11, xr_8_12, xr_8_13, xr_8_14, xr_h, xr_e, xr_u, xr_m, xr_2, xr_9, if_pos]
      rfl
    · rw [show n + 0 + 1 = n + 1 from rfl, xX12_storer_2.eq_2]
      simp (disch := omega) only [e_gd, e_ix, e_oli2, e_oml2, e_obi2, e_obv2, e_add, e_mul, e_sub, e_eq, e_lt, e_le, e_eq0, e_0eq, e_lt0, e_0lt, e_le0, e_0le, e_m1, e_m1', e_m1lt, Nat.add_assoc, Nat.not_lt_zero, Nat.le_zero_eq, sr_1, sr_14, sr_70, sr_126, sr_182, sr_238, sr_244, sr_292, sr_298, sr_304, sr_310, sr_316, sr_358, sr_400, sr_442, sr_484, sr_526, sr_532, sr_538, so_586, sr_586, sr_2746, sr_2752, sr_3112, sr_3118, sr_3124, sr_3130, sr_6730, sr_6736, sr_6766, sr_6814, sr_6961, sr_6962, sr_7362, sr_7363, sr_7364, su_6961, su_7362, su_7363, if_pos]
      rfl
  | m + 1, n, k, hk => by
    have hn := g_n hi.1
    have hT := TK_le hi (show k < 7 by omega) hl
    have ih := x_wri_l (N := N) hi hl m n (k + 1) (by omega)
    refine ⟨?_, fun N' => ?_⟩
    · rw [show n + (m + 1) + 1 = (n + m + 1) + 1 by omega, xX1_writerOf_2.eq_2, fr_s]
      simp (disch := omega) only [e_gd, e_ix, e_oli2, e_oml2, e_obi2, e_obv2, e_add, e_mul, e_sub, e_eq, e_lt, e_le, e_eq0, e_0eq, e_lt0, e_0lt, e_le0, e_0le, e_m1, e_m1', e_m1lt, Nat.add_assoc, Nat.not_lt_zero, Nat.le_zero_eq, Nat.reduceAdd, xr_4, xr_5, xr_6, xr_7, xr_13, xr_14, xr_3, xr_10, xr_11, xr_12, xr_15, xr_16, xr_17, xr_18, xr_19, xr_0_8, xr_0_9, xr_0_10, xr_0_11, xr_0_12, xr_0_13, xr_0_14, xr_8_11, xr_8_12, xr_8_13, xr_8_14, xr_h, xr_e, xr_u, xr_m, xr_2, xr_9, x_wouldHit (N := N) (t := 2) hi.1 (show k < 7 by omega) hl (show 2 < 4 by omega) (show S 14 (8 * k + l) ≤ S 1 1 by omega)]
      rw [show n + (m + 1) = n + m + 1 from rfl, ih.1, if_neg (by omega)]
      by_cases h1 : a_H S k l 2
      · rw [if_pos h1, if_pos h1, if_neg (show ¬ nI 1 = (0 : Int32) by decide)]; rfl
      · rw [if_neg h1, if_neg h1, if_pos (show nI 0 = (0 : Int32) by decide)]
    · rw [show n + (m + 1) + 1 = (n + m + 1) + 1 by omega, xX12_storer_2.eq_2, fr_s]
      simp (disch := omega) only [e_gd, e_ix, e_oli2, e_oml2, e_obi2, e_obv2, e_add, e_mul, e_sub, e_eq, e_lt, e_le, e_eq0, e_0eq, e_lt0, e_0lt, e_le0, e_0le, e_m1, e_m1', e_m1lt, Nat.add_assoc, Nat.not_lt_zero, Nat.le_zero_eq, sr_1, sr_14, sr_70, sr_126, sr_182, sr_238, sr_244, sr_292, sr_298, sr_304, sr_310, sr_316, sr_358, sr_400, sr_442, sr_484, sr_526, sr_532, sr_538, so_586, sr_586, sr_2746, sr_2752, sr_3112, sr_3118, sr_3124, sr_3130, sr_6730, sr_6736, sr_6766, sr_6814, sr_6961, sr_6962, sr_7362, sr_7363, sr_7364, su_6961, su_7362, su_7363, q_isHit (N := N') hi.1 (show k < 7 by omega) hl (show 2 < 4 by omega)]
      rw [show n + (m + 1) = n + m + 1 from rfl, ih.2 N', if_neg (by omega)]
      by_cases h1 : a_H S k l 2
      · rw [if_pos h1, if_pos h1, if_neg (show ¬ nI 1 = (0 : Int32) by decide)]; rfl
      · rw [if_neg h1, if_neg h1, if_pos (show nI 0 = (0 : Int32) by decide)]
theorem x_hav_l {N : j_M} {S : a_S} {l : Nat} (h : RG S) (hl : l < 8) : ∀ (m n k s : Nat), k + m = 7 → xX1_nodesWithTokens_4 2 (n + m + 1) (nI l) (nI s) (nI k) (XS N 2 S) = some (nI (s + cn (fun x => 0 < S 14 (8 * x + l)) m k), XS N 2 S) ∧ ∀ N' : j_M, xX12_havers_4 (n + m + 1) (nI l) (nI s) (nI k) (RS N' S) = some (nI (s + cn (fun x => 0 < S 14 (8 * x + l)) m k), RS N' S)
  | 0, n, k, s, hk => by
    refine ⟨?_, fun N' => ?_⟩
    · rw [show n + 0 + 1 = n + 1 from rfl, xX1_nodesWithTokens_4.eq_2]
      simp (disch := omega) only [e_gd, e_ix, e_oli2, e_oml2, e_obi2, e_obv2, e_add, e_mul, e_sub, e_eq, e_lt, e_le, e_eq0, e_0eq, e_lt0, e_0lt, e_le0, e_0le, e_m1, e_m1', e_m1lt, Nat.add_assoc, Nat.not_lt_zero, Nat.le_zero_eq, if_pos]
      rfl
    · rw [show n + 0 + 1 = n + 1 from rfl, xX12_havers_4.eq_2]
      simp (disch := omega) only [e_gd, e_ix, e_oli2, e_oml2, e_obi2, e_obv2, e_add, e_mul, e_sub, e_eq, e_lt, e_le, e_eq0, e_0eq, e_lt0, e_0lt, e_le0, e_0le, e_m1, e_m1', e_m1lt, Nat.add_assoc, Nat.not_lt_zero, Nat.le_zero_eq, if_pos]
      rfl
  | m + 1, n, k, s, hk => by
    have g := g_hv h (8 * k + l)
    have ih := fun s => x_hav_l (N := N) h hl m n (k + 1) s (by omega)
    have i1 := fun s => (ih s).1
    refine ⟨?_, fun N' => ?_⟩
    · rw [show n + (m + 1) + 1 = (n + m + 1) + 1 by omega, xX1_nodesWithTokens_4.eq_2, cn_s, x_held (by omega) hl, e_obi2, hc_ h, e_obi2]
      simp (disch := omega) only [e_gd, e_ix, e_oli2, e_oml2, e_obi2, e_obv2, e_add, e_mul, e_sub, e_eq, e_lt, e_le, e_eq0, e_0eq, e_lt0, e_0lt, e_le0, e_0le, e_m1, e_m1', e_m1lt, Nat.add_assoc, Nat.not_lt_zero, Nat.le_zero_eq]
      rw [show n + (m + 1) = n + m + 1 from rfl, i1, i1, if_neg (by omega)]
      by_cases h1 : 0 < S 14 (8 * k + l)
      · rw [if_neg (by omega), if_pos h1, Nat.add_assoc]
      · rw [if_pos (by omega), if_neg h1, Nat.zero_add]
    · have i2 := fun s => (ih s).2 N'
      rw [show n + (m + 1) + 1 = (n + m + 1) + 1 by omega, xX12_havers_4.eq_2, cn_s, m_place, e_obi2]
      unfold xX12_havers_32
      simp (disch := omega) only [e_gd, e_ix, e_oli2, e_oml2, e_obi2, e_obv2, e_add, e_mul, e_sub, e_eq, e_lt, e_le, e_eq0, e_0eq, e_lt0, e_0lt, e_le0, e_0le, e_m1, e_m1', e_m1lt, Nat.add_assoc, Nat.not_lt_zero, Nat.le_zero_eq, sr_1, sr_14, sr_70, sr_126, sr_182, sr_238, sr_244, sr_292, sr_298, sr_304, sr_310, sr_316, sr_358, sr_400, sr_442, sr_484, sr_526, sr_532, sr_538, so_586, sr_586, sr_2746, sr_2752, sr_3112, sr_3118, sr_3124, sr_3130, sr_6730, sr_6736, sr_6766, sr_6814, sr_6961, sr_6962, sr_7362, sr_7363, sr_7364, su_6961, su_7362, su_7363]
      rw [show n + (m + 1) = n + m + 1 from rfl, i2, i2, if_neg (by omega)]
      by_cases h1 : 0 < S 14 (8 * k + l)
      · rw [if_neg (by omega), if_pos h1, Nat.add_assoc]
      · rw [if_pos (by omega), if_neg h1, Nat.zero_add, Nat.add_zero]
def wl (S : a_S) (l i : Nat) : Nat := if S 586 (9 * i + 3) = l then S 586 (9 * i + 4) else 0
def sm2 (f : Nat → Nat) : Nat → Nat → Nat
  | 0, _ => 0
  | m + 1, k => f k + sm2 f m (k + 1)
theorem sm2_s {f : Nat → Nat} {m k : Nat} : sm2 f (m + 1) k = f k + sm2 f m (k + 1) := rfl
theorem x_way_l {N : j_M} {S : a_S} {l : Nat} (hi : INV S z0) (hl : l < 8) : ∀ (m n k s : Nat), k + m = S 1 7 → xX1_tokensOnWay_4 2 (n + m + 1) (nI l) (nI s) (nI k) (XS N 2 S) = some (nI (s + sm2 (wl S l) m k), XS N 2 S) ∧ ∀ N' : j_M, xX12_ofLineOnTheWay_4 (n + m + 1) (nI l) (nI s) (nI k) (RS N' S) = some (nI (s + sm2 (wl S l) m k), RS N' S)
  | 0, n, k, s, hk => by
    have hq := INV_q hi
    refine ⟨?_, fun N' => ?_⟩
    · rw [show n + 0 + 1 = n + 1 from rfl, xX1_tokensOnWay_4.eq_2]
      simp (disch := omega) only [e_gd, e_ix, e_oli2, e_oml2, e_obi2, e_obv2, e_add, e_mul, e_sub, e_eq, e_lt, e_le, e_eq0, e_0eq, e_lt0, e_0lt, e_le0, e_0le, e_m1, e_m1', e_m1lt, Nat.add_assoc, Nat.not_lt_zero, Nat.le_zero_eq, Nat.reduceAdd, xr_4, xr_5, xr_6, xr_7, xr_13, xr_14, xr_3, xr_10, xr_11, xr_12, xr_15, xr_16, xr_17, xr_18, xr_19, xr_0_8, xr_0_9, xr_0_10, xr_0_11, xr_0_12, xr_0_13, xr_0_14, xr_8_11, xr_8_12, xr_8_13, xr_8_14, xr_h, xr_e, xr_u, xr_m, xr_2, xr_9, if_pos]
      rfl
    · rw [show n + 0 + 1 = n + 1 from rfl, xX12_ofLineOnTheWay_4.eq_2]
      simp (disch := omega) only [e_gd, e_ix, e_oli2, e_oml2, e_obi2, e_obv2, e_add, e_mul, e_sub, e_eq, e_lt, e_le, e_eq0, e_0eq, e_lt0, e_0lt, e_le0, e_0le, e_m1, e_m1', e_m1lt, Nat.add_assoc, Nat.not_lt_zero, Nat.le_zero_eq, sr_1, sr_14, sr_70, sr_126, sr_182, sr_238, sr_244, sr_292, sr_298, sr_304, sr_310, sr_316, sr_358, sr_400, sr_442, sr_484, sr_526, sr_532, sr_538, so_586, sr_586, sr_2746, sr_2752, sr_3112, sr_3118, sr_3124, sr_3130, sr_6730, sr_6736, sr_6766, sr_6814, sr_6961, sr_6962, sr_7362, sr_7363, sr_7364, su_6961, su_7362, su_7363, if_pos]
      rfl
  | m + 1, n, k, s, hk => by
    have hq := INV_q hi
    have g := g_f hi.1 k
    have ih := fun s => x_way_l (N := N) hi hl m n (k + 1) s (by omega)
    have i1 := fun s => (ih s).1
    have lf := (lf_ (M := XS N 2 S) hi (show k < S 1 7 by omega)).2.2.2
    have li := li_ (M := XS N 2 S) (w := 4) hi (show k < S 1 7 by omega) (by omega)
    rw [if_neg (by omega)] at li
    refine ⟨?_, fun N' => ?_⟩
    · rw [show n + (m + 1) + 1 = (n + m + 1) + 1 by omega, xX1_tokensOnWay_4.eq_2, sm2_s]
      simp (disch := omega) only [e_gd, e_ix, e_oli2, e_oml2, e_obi2, e_obv2, e_add, e_mul, e_sub, e_eq, e_lt, e_le, e_eq0, e_0eq, e_lt0, e_0lt, e_le0, e_0le, e_m1, e_m1', e_m1lt, Nat.add_assoc, Nat.not_lt_zero, Nat.le_zero_eq, Nat.reduceAdd, xr_4, xr_5, xr_6, xr_7, xr_13, xr_14, xr_3, xr_10, xr_11, xr_12, xr_15, xr_16, xr_17, xr_18, xr_19, xr_0_8, xr_0_9, xr_0_10, xr_0_11, xr_0_12, xr_0_13, xr_0_14, xr_8_11, xr_8_12, xr_8_13, xr_8_14, xr_h, xr_e, xr_u, xr_m, xr_2, xr_9, lf, li]
      rw [show n + (m + 1) = n + m + 1 from rfl, i1, i1, if_neg (by omega)]
      unfold wl
      by_cases h1 : S 586 (9 * k + 3) = l
      · rw [if_pos h1, if_pos h1, Nat.add_assoc]
      · rw [if_neg h1, if_neg h1, Nat.zero_add]
    · have i2 := fun s => (ih s).2 N'
      rw [show n + (m + 1) + 1 = (n + m + 1) + 1 by omega, xX12_ofLineOnTheWay_4.eq_2, sm2_s]
      unfold xX12_ofLineOnTheWay_36
      simp (disch := omega) only [e_gd, e_ix, e_oli2, e_oml2, e_obi2, e_obv2, e_add, e_mul, e_sub, e_eq, e_lt, e_le, e_eq0, e_0eq, e_lt0, e_0lt, e_le0, e_0le, e_m1, e_m1', e_m1lt, Nat.add_assoc, Nat.not_lt_zero, Nat.le_zero_eq, sr_1, sr_14, sr_70, sr_126, sr_182, sr_238, sr_244, sr_292, sr_298, sr_304, sr_310, sr_316, sr_358, sr_400, sr_442, sr_484, sr_526, sr_532, sr_538, so_586, sr_586, sr_2746, sr_2752, sr_3112, sr_3118, sr_3124, sr_3130, sr_6730, sr_6736, sr_6766, sr_6814, sr_6961, sr_6962, sr_7362, sr_7363, sr_7364, su_6961, su_7362, su_7363, r_of]
      rw [show n + (m + 1) = n + m + 1 from rfl, i2, i2, if_neg (by omega)]
      unfold wl
      by_cases h1 : S 586 (9 * k + 3) = l
      · rw [if_pos h1, if_pos h1, Nat.add_assoc]
      · rw [if_neg h1, if_neg h1, Nat.zero_add, Nat.add_zero]
theorem x_trn_l {N : j_M} {S : a_S} {l : Nat} (hi : INV S z0) (hl : l < 8) : ∀ (m n k s : Nat), k + m = 7 → xX1_nodesWithTurn_4 2 (n + m + 1) (nI l) (nI s) (nI k) (XS N 2 S) = some (nI (s + cn (fun x => (x < S 1 0 ∨ x = 6) ∧ a_turn S x l ≠ 0) m k), XS N 2 S) ∧ ∀ N' : j_M, xX12_tablesOf_4 (n + m + 1) (nI l) (nI s) (nI k) (RS N' S) = some (nI (s + cn (fun x => (x < S 1 0 ∨ x = 6) ∧ a_turn S x l ≠ 0) m k), RS N' S)
  | 0, n, k, s, hk => by
    refine ⟨?_, fun N' => ?_⟩
    · rw [show n + 0 + 1 = n + 1 from rfl, xX1_nodesWithTurn_4.eq_2]
      simp (disch := omega) only [e_gd, e_ix, e_oli2, e_oml2, e_obi2, e_obv2, e_add, e_mul, e_sub, e_eq, e_lt, e_le, e_eq0, e_0eq, e_lt0, e_0lt, e_le0, e_0le, e_m1, e_m1', e_m1lt, Nat.add_assoc, Nat.not_lt_zero, Nat.le_zero_eq, if_pos]
      rfl
    · rw [show n + 0 + 1 = n + 1 from rfl, xX12_tablesOf_4.eq_2]
      simp (disch := omega) only [e_gd, e_ix, e_oli2, e_oml2, e_obi2, e_obv2, e_add, e_mul, e_sub, e_eq, e_lt, e_le, e_eq0, e_0eq, e_lt0, e_0lt, e_le0, e_0le, e_m1, e_m1', e_m1lt, Nat.add_assoc, Nat.not_lt_zero, Nat.le_zero_eq, if_pos]
      rfl
  | m + 1, n, k, s, hk => by
    have hn := g_n hi.1
    have sc := hi.2.2.2.2.2.2.1
    unfold SC at sc
    have ht := g_turn (S := S) (nd := k) (l := l)
    have ih := fun s => x_trn_l (N := N) hi hl m n (k + 1) s (by omega)
    have i1 := fun s => (ih s).1
    refine ⟨?_, fun N' => ?_⟩
    · rw [show n + (m + 1) + 1 = (n + m + 1) + 1 by omega, xX1_nodesWithTurn_4.eq_2, cn_s, x_isNode hi.1 (by omega), e_obi2, x_turn hi.1 (by omega) hl, e_obi2, f_om1 (by omega), f_le (by omega) (by omega), if_neg (by omega), e_add, e_add, i1, i1]
      by_cases h1 : k < S 1 0 ∨ k = 6
      · rw [if_pos h1, if_neg (show ¬ nI 1 = (0 : Int32) by decide)]
        by_cases h2 : a_turn S k l = 0
        · rw [if_pos h2, if_neg (fun e => e.2 h2), Nat.zero_add]
        · rw [if_neg h2, if_pos ⟨h1, h2⟩, Nat.add_assoc]
      · rw [if_neg h1, if_pos (show nI 0 = (0 : Int32) by decide), if_neg (fun e => h1 e.1), Nat.zero_add]
    · have i2 := fun s => (ih s).2 N'
      rw [show n + (m + 1) + 1 = (n + m + 1) + 1 by omega, xX12_tablesOf_4.eq_2, cn_s, r_isNode hi.1 (by omega) (by omega), e_obi2, q_turn hi.1 (by omega) hl, e_obi2]
      unfold xX12_tablesOf_33 xX12_tablesOf_34
      rw [f_om1 (by omega), f_lt (by omega) (by omega), if_neg (by omega), e_add, e_add, e_add, i2, i2]
      by_cases h1 : k < S 1 0 ∨ k = 6
      · rw [if_pos h1, if_neg (show ¬ nI 1 = (0 : Int32) by decide)]
        by_cases h2 : a_turn S k l = 0
        · rw [if_pos h2, if_neg (fun e => e.2 h2), Nat.zero_add, Nat.add_zero]
        · rw [if_neg h2, if_pos ⟨h1, h2⟩, Nat.add_assoc]
      · rw [if_neg h1, if_pos (show nI 0 = (0 : Int32) by decide), if_neg (fun e => h1 e.1), Nat.zero_add, Nat.add_zero]
