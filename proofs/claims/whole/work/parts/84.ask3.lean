/-! ===== questions ===== -/
theorem y_4 {N : j_M} {S : a_S} {j : Nat} (h : j < 240) : XS N 2 S 4 j = nI (lcv (fd S j)) := xr_2 (t := 2) h
theorem y_5 {N : j_M} {S : a_S} {j : Nat} (h : j < 48) : XS N 2 S 5 j = oI (S 538 j) := xr_3 (t := 2) h
theorem y_6 {N : j_M} {S : a_S} {j : Nat} (h : j < 48) : XS N 2 S 6 j = nI (S 6766 j) := xr_4 (t := 2) h
theorem y_7 {N : j_M} {S : a_S} {j : Nat} (h : j < 6) : XS N 2 S 7 j = nI (S 526 j) := xr_5 (t := 2) h
theorem y_8 {N : j_M} {S : a_S} {j : Nat} (h : j < 6) : XS N 2 S 8 j = nI (S 532 j) := xr_6 (t := 2) h
theorem y_11 {N : j_M} {S : a_S} {j : Nat} (h : j < 100) : XS N 2 S 11 j = nI (tv S j) := xr_9 (t := 2) h
theorem y_12 {N : j_M} {S : a_S} {j : Nat} (h : j < 49) : XS N 2 S 12 j = nI (S 6814 (3 * j)) := xr_10 (t := 2) h
theorem y_13 {N : j_M} {S : a_S} {j : Nat} (h : j < 49) : XS N 2 S 13 j = nI (S 6814 (3 * j + 1)) := xr_11 (t := 2) h
theorem y_14 {N : j_M} {S : a_S} {j : Nat} (h : j < 49) : XS N 2 S 14 j = nI (S 6814 (3 * j + 2)) := xr_12 (t := 2) h
theorem y_15 {N : j_M} {S : a_S} {j : Nat} (h : j < 360) : XS N 2 S 15 j = nI (S 2752 j) := xr_13 (t := 2) h
theorem y_16 {N : j_M} {S : a_S} {j : Nat} (h : j < 6) : XS N 2 S 16 j = nI (S 2746 j) := xr_14 (t := 2) h
theorem y_17 {N : j_M} {S : a_S} {j : Nat} (h : j < 6) : XS N 2 S 17 j = nI (S 6736 (5 * j)) := xr_15 (t := 2) h
theorem y_18 {N : j_M} {S : a_S} {j : Nat} (h : j < 6) : XS N 2 S 18 j = nI (S 6736 (5 * j + 1)) := xr_16 (t := 2) h
theorem y_19 {N : j_M} {S : a_S} {j : Nat} (h : j < 6) : XS N 2 S 19 j = nI (S 6736 (5 * j + 2)) := xr_17 (t := 2) h
theorem y_20 {N : j_M} {S : a_S} {j : Nat} (h : j < 6) : XS N 2 S 20 j = nI (S 6736 (5 * j + 3)) := xr_18 (t := 2) h
theorem y_21 {N : j_M} {S : a_S} {j : Nat} (h : j < 6) : XS N 2 S 21 j = nI (S 6736 (5 * j + 4)) := xr_19 (t := 2) h
theorem y_10_11 {N : j_M} {S : a_S} : XS N 2 S 10 11 = nI (S 6961 0) := xr_8_11 (t := 2)
theorem y_10_12 {N : j_M} {S : a_S} : XS N 2 S 10 12 = nI (S 1 8) := xr_8_12 (t := 2)
theorem y_10_13 {N : j_M} {S : a_S} : XS N 2 S 10 13 = nI (S 1 12) := xr_8_13 (t := 2)
theorem y_10_14 {N : j_M} {S : a_S} : XS N 2 S 10 14 = nI (S 1 13) := xr_8_14 (t := 2)
theorem op_cost {S : a_S} {b : Nat} (a d : Int32) (h : OKS S b) : OPN (xX11_cost a d) (xX12_cost a d) S b := by
  have hno : ∀ (_ : ∀ N : j_M, xX11_cost a d (XS N 2 S) = some (-1, XS N 2 S)) (_ : ∀ N : j_M, xX12_cost a d (RS N S) = some (-1, RS N S)), OPN (xX11_cost a d) (xX12_cost a d) S b := fun h1 h2 => OPN_q h (-1) (fun N _ => h1 N) h2
  rcases i_cases a with ⟨c, hc, rfl⟩ | ha
  · by_cases hc6 : c < 6
    · have ex : ∀ N : j_M, xX11_cost (nI c) d (XS N 2 S) = osw d [((nI 0), some (nI (S 6736 (5 * c)), XS N 2 S)), ((nI 1), some (nI (S 6736 (5 * c + 1)), XS N 2 S)), ((nI 2), some (nI (S 6736 (5 * c + 2)), XS N 2 S)), ((nI 3), some (nI (S 6736 (5 * c + 3)), XS N 2 S)), ((nI 4), some (nI (S 6736 (5 * c + 4)), XS N 2 S))] (some ((-1 : Int32), XS N 2 S)) := by
        intro N
        unfold xX11_cost
        simp (disch := omega) only [e_gd, e_ix, e_oli2, e_oml2, e_obi2, e_obv2, e_add, e_mul, e_sub, e_eq, e_lt, e_le, e_eq0, e_0eq, e_lt0, e_0lt, e_le0, e_0le, e_m1, e_m1', e_m1lt, Nat.add_assoc, Nat.not_lt_zero, Nat.le_zero_eq, Nat.reduceAdd, y_4, y_5, y_6, y_7, y_8, y_11, y_12, y_13, y_14, y_15, y_16, y_17, y_18, y_19, y_20, y_21, y_10_11, y_10_12, y_10_13, y_10_14, xr_0_8, xr_0_9, xr_0_10, xr_0_11, xr_0_12, xr_0_13, xr_0_14, if_pos, if_false]
      have er : ∀ N : j_M, xX12_cost (nI c) d (RS N S) = obi (xX12_isIn d (nI 0) (nI 4) (RS N S)) fun v4 M3 => (if v4 = (0 : Int32) then some ((-1 : Int32), M3) else gd (((nI 6736) + ((nI 5) * (nI c))) + d) 7460 (oli (M3 201 (ix (((nI 6736) + ((nI 5) * (nI c))) + d))) fun v5 => some (v5, M3))) := by
        intro N
        unfold xX12_cost
        rw [m_isIn _ hc (by omega) (by omega), if_pos (by omega), e_obi2, if_neg (by decide)]
      rcases i_cases d with ⟨k, hk, rfl⟩ | hd
      · by_cases hk4 : k ≤ 4
        · refine OPN_q h (nI (S 6736 (5 * c + k))) (fun N _ => ?_) (fun N => ?_)
          · rw [ex]
            have ck : k = 0 ∨ k = 1 ∨ k = 2 ∨ k = 3 ∨ k = 4 := by omega
            rcases ck with rfl | rfl | rfl | rfl | rfl <;> simp (disch := omega) only [e_osw, e_eq, Nat.reduceEqDiff, if_true, if_false, Nat.add_zero]
          · rw [er, m_isIn _ hk (by omega) (by omega), if_pos (by omega), e_obi2, if_neg (by decide)]
            simp (disch := omega) only [e_gd, e_ix, e_oli2, e_oml2, e_obi2, e_obv2, e_add, e_mul, e_sub, e_eq, e_lt, e_le, e_eq0, e_0eq, e_lt0, e_0lt, e_le0, e_0le, e_m1, e_m1', e_m1lt, Nat.add_assoc, Nat.not_lt_zero, Nat.le_zero_eq, sr_1, sr_14, sr_70, sr_126, sr_182, sr_238, sr_244, sr_292, sr_298, sr_304, sr_310, sr_316, sr_358, sr_400, sr_442, sr_484, sr_526, sr_532, sr_538, so_586, sr_586, sr_2746, sr_2752, sr_3112, sr_3118, sr_3124, sr_3130, sr_6730, sr_6736, sr_6766, sr_6814, sr_6961, sr_6962, sr_7362, sr_7363, sr_7364, su_6961, su_7362, su_7363]
        · refine hno (fun N => ?_) (fun N => ?_)
          · rw [ex]
            simp (disch := omega) only [e_osw, e_osw0, e_eq]
            rw [if_neg (by omega), if_neg (by omega), if_neg (by omega), if_neg (by omega), if_neg (by omega)]
          · rw [er, m_isIn _ hk (by omega) (by omega), if_neg (by omega), e_obi2, if_pos (by decide)]
      · refine hno (fun N => ?_) (fun N => ?_)
        · rw [ex]
          simp (disch := omega) only [e_osw, e_osw0, neg_eq hd, if_false]
        · rw [er, q_isInN hd (by omega), e_obi2, if_pos (by decide)]
    · refine hno (fun N => ?_) (fun N => ?_)
      · unfold xX11_cost
        simp (disch := omega) only [e_gd, e_ix, e_oli2, e_oml2, e_obi2, e_obv2, e_add, e_mul, e_sub, e_eq, e_lt, e_le, e_eq0, e_0eq, e_lt0, e_0lt, e_le0, e_0le, e_m1, e_m1', e_m1lt, Nat.add_assoc, Nat.not_lt_zero, Nat.le_zero_eq, if_false]
        rw [if_neg hc6]
      · unfold xX12_cost
        rw [m_isIn _ hc (by omega) (by omega), if_neg (by omega), e_obi2, if_pos (by decide)]
  · refine hno (fun N => ?_) (fun N => ?_)
    · unfold xX11_cost
      rw [if_pos ha]
    · unfold xX12_cost
      rw [q_isInN ha (by omega), e_obi2, if_pos (by decide)]
theorem op_flow {S : a_S} {b : Nat} (a d f : Int32) (h : OKS S b) : OPN (xX11_flow a d f) (xX12_flow a d f) S b := by
  have hno : ∀ (_ : ∀ N : j_M, xX11_flow a d f (XS N 2 S) = some (-1, XS N 2 S)) (_ : ∀ N : j_M, xX12_flow a d f (RS N S) = some (-1, RS N S)), OPN (xX11_flow a d f) (xX12_flow a d f) S b := fun h1 h2 => OPN_q h (-1) (fun N _ => h1 N) h2
  rcases i_cases a with ⟨c, hc, rfl⟩ | ha
  · by_cases hc7 : c < 7
    · rcases i_cases d with ⟨l, hl, rfl⟩ | hd
      · by_cases hl7 : l < 7
        · have ex : ∀ N : j_M, xX11_flow (nI c) (nI l) f (XS N 2 S) = osw f [((nI 0), some (nI (S 6814 (3 * (7 * c + l))), XS N 2 S)), ((nI 1), some (nI (S 6814 (3 * (7 * c + l) + 1)), XS N 2 S)), ((nI 2), some (nI (S 6814 (3 * (7 * c + l) + 2)), XS N 2 S))] (some ((-1 : Int32), XS N 2 S)) := by
            intro N
            unfold xX11_flow
            simp (disch := omega) only [e_gd, e_ix, e_oli2, e_oml2, e_obi2, e_obv2, e_add, e_mul, e_sub, e_eq, e_lt, e_le, e_eq0, e_0eq, e_lt0, e_0lt, e_le0, e_0le, e_m1, e_m1', e_m1lt, Nat.add_assoc, Nat.not_lt_zero, Nat.le_zero_eq, Nat.reduceAdd, y_4, y_5, y_6, y_7, y_8, y_11, y_12, y_13, y_14, y_15, y_16, y_17, y_18, y_19, y_20, y_21, y_10_11, y_10_12, y_10_13, y_10_14, xr_0_8, xr_0_9, xr_0_10, xr_0_11, xr_0_12, xr_0_13, xr_0_14, Nat.mul_comm c 7, if_pos, if_neg, if_false]
          have er : ∀ N : j_M, xX12_flow (nI c) (nI l) f (RS N S) = obi (xX12_isIn f (nI 0) (nI 2) (RS N S)) fun v6 M5 => (if v6 = (0 : Int32) then some ((-1 : Int32), M5) else gd (((nI 6814) + ((nI 3) * (((nI 7) * (nI c)) + (nI l)))) + f) 7460 (oli (M5 201 (ix (((nI 6814) + ((nI 3) * (((nI 7) * (nI c)) + (nI l)))) + f))) fun v7 => some (v7, M5))) := by
            intro N
            unfold xX12_flow
            rw [m_isIn _ hc (by omega) (by omega), if_pos (by omega), e_obi2, if_neg (by decide), m_isIn _ hl (by omega) (by omega), if_pos (by omega), e_obi2, if_neg (by decide)]
          rcases i_cases f with ⟨k, hk, rfl⟩ | hf
          · by_cases hk4 : k ≤ 2
            · refine OPN_q h (nI (S 6814 (3 * (7 * c + l) + k))) (fun N _ => ?_) (fun N => ?_)
              · rw [ex]
                have ck : k = 0 ∨ k = 1 ∨ k = 2 := by omega
                rcases ck with rfl | rfl | rfl <;> simp (disch := omega) only [e_osw, e_eq, Nat.reduceEqDiff, if_true, if_false, Nat.add_zero]
              · rw [er, m_isIn _ hk (by omega) (by omega), if_pos (by omega), e_obi2, if_neg (by decide)]
                simp (disch := omega) only [e_gd, e_ix, e_oli2, e_oml2, e_obi2, e_obv2, e_add, e_mul, e_sub, e_eq, e_lt, e_le, e_eq0, e_0eq, e_lt0, e_0lt, e_le0, e_0le, e_m1, e_m1', e_m1lt, Nat.add_assoc, Nat.not_lt_zero, Nat.le_zero_eq, sr_1, sr_14, sr_70, sr_126, sr_182, sr_238, sr_244, sr_292, sr_298, sr_304, sr_310, sr_316, sr_358, sr_400, sr_442, sr_484, sr_526, sr_532, sr_538, so_586, sr_586, sr_2746, sr_2752, sr_3112, sr_3118, sr_3124, sr_3130, sr_6730, sr_6736, sr_6766, sr_6814, sr_6961, sr_6962, sr_7362, sr_7363, sr_7364, su_6961, su_7362, su_7363]
            · refine hno (fun N => ?_) (fun N => ?_)
              · rw [ex]
                simp (disch := omega) only [e_osw, e_osw0, e_eq]
                rw [if_neg (by omega), if_neg (by omega), if_neg (by omega)]
              · rw [er, m_isIn _ hk (by omega) (by omega), if_neg (by omega), e_obi2, if_pos (by decide)]
          · refine hno (fun N => ?_) (fun N => ?_)
            · rw [ex]
              simp (disch := omega) only [e_osw, e_osw0, neg_eq hf, if_false]
            · rw [er, q_isInN hf (by omega), e_obi2, if_pos (by decide)]
        · refine hno (fun N => ?_) (fun N => ?_)
          · unfold xX11_flow
            simp (disch := omega) only [e_gd, e_ix, e_oli2, e_oml2, e_obi2, e_obv2, e_add, e_mul, e_sub, e_eq, e_lt, e_le, e_eq0, e_0eq, e_lt0, e_0lt, e_le0, e_0le, e_m1, e_m1', e_m1lt, Nat.add_assoc, Nat.not_lt_zero, Nat.le_zero_eq, if_neg, if_false]
          · unfold xX12_flow
            rw [m_isIn _ hc (by omega) (by omega), if_pos (by omega), e_obi2, if_neg (by decide), m_isIn _ hl (by omega) (by omega), if_neg (by omega), e_obi2, if_pos (by decide)]
      · refine hno (fun N => ?_) (fun N => ?_)
        · unfold xX11_flow
          simp (disch := omega) only [e_gd, e_ix, e_oli2, e_oml2, e_obi2, e_obv2, e_add, e_mul, e_sub, e_eq, e_lt, e_le, e_eq0, e_0eq, e_lt0, e_0lt, e_le0, e_0le, e_m1, e_m1', e_m1lt, Nat.add_assoc, Nat.not_lt_zero, Nat.le_zero_eq, if_neg, if_false, neg_0 hd, if_true]
        · unfold xX12_flow
          rw [m_isIn _ hc (by omega) (by omega), if_pos (by omega), e_obi2, if_neg (by decide), q_isInN hd (by omega), e_obi2, if_pos (by decide)]
    · refine hno (fun N => ?_) (fun N => ?_)
      · unfold xX11_flow
        simp (disch := omega) only [e_gd, e_ix, e_oli2, e_oml2, e_obi2, e_obv2, e_add, e_mul, e_sub, e_eq, e_lt, e_le, e_eq0, e_0eq, e_lt0, e_0lt, e_le0, e_0le, e_m1, e_m1', e_m1lt, Nat.add_assoc, Nat.not_lt_zero, Nat.le_zero_eq, if_pos, if_false]
      · unfold xX12_flow
        rw [m_isIn _ hc (by omega) (by omega), if_neg (by omega), e_obi2, if_pos (by decide)]
  · refine hno (fun N => ?_) (fun N => ?_)
    · unfold xX11_flow
      rw [if_pos ha]
    · unfold xX12_flow
      rw [q_isInN ha (by omega), e_obi2, if_pos (by decide)]
theorem op_group {S : a_S} {b : Nat} (a d : Int32) (h : OKS S b) : OPN (xX11_group a d) (xX12_group a d) S b := by
  have hn := g_n h.1.1
  have sc := h.1.2.2.2.2.2.2.1
  unfold SC at sc
  have hno : ∀ (_ : ∀ N : j_M, xX11_group a d (XS N 2 S) = some (-1, XS N 2 S)) (_ : ∀ N : j_M, xX12_group a d (RS N S) = some (-1, RS N S)), OPN (xX11_group a d) (xX12_group a d) S b := fun h1 h2 => OPN_q h (-1) (fun N _ => h1 N) h2
  rcases i_cases a with ⟨c, hc, rfl⟩ | ha
  · by_cases hcN : c < S 1 0
    · rcases i_cases d with ⟨l, hl, rfl⟩ | hd
      · by_cases hl8 : l < 8
        · refine OPN_q h (nI (S 6766 (8 * c + l))) (fun N _ => ?_) (fun N => ?_)
          · unfold xX11_group
            rw [x_isCpu h.1.1 hc, if_pos hcN, e_obi2, if_neg (by decide), x_isLine hl, if_pos hl8, e_obi2, if_neg (by decide)]
            simp (disch := omega) only [e_gd, e_ix, e_oli2, e_oml2, e_obi2, e_obv2, e_add, e_mul, e_sub, e_eq, e_lt, e_le, e_eq0, e_0eq, e_lt0, e_0lt, e_le0, e_0le, e_m1, e_m1', e_m1lt, Nat.add_assoc, Nat.not_lt_zero, Nat.le_zero_eq, Nat.reduceAdd, y_4, y_5, y_6, y_7, y_8, y_11, y_12, y_13, y_14, y_15, y_16, y_17, y_18, y_19, y_20, y_21, y_10_11, y_10_12, y_10_13, y_10_14, xr_0_8, xr_0_9, xr_0_10, xr_0_11, xr_0_12, xr_0_13, xr_0_14, Nat.mul_comm c 8]
          · unfold xX12_group
            rw [r_isCpu h.1.1 (by omega) hc, if_pos hcN, e_obi2, if_neg (by decide), q_isLine hl, if_pos hl8, e_obi2, if_neg (by decide), m_place, e_obi2]
            simp (disch := omega) only [e_gd, e_ix, e_oli2, e_oml2, e_obi2, e_obv2, e_add, e_mul, e_sub, e_eq, e_lt, e_le, e_eq0, e_0eq, e_lt0, e_0lt, e_le0, e_0le, e_m1, e_m1', e_m1lt, Nat.add_assoc, Nat.not_lt_zero, Nat.le_zero_eq, sr_1, sr_14, sr_70, sr_126, sr_182, sr_238, sr_244, sr_292, sr_298, sr_304, sr_310, sr_316, sr_358, sr_400, sr_442, sr_484, sr_526, sr_532, sr_538, so_586, sr_586, sr_2746, sr_2752, sr_3112, sr_3118, sr_3124, sr_3130, sr_6730, sr_6736, sr_6766, sr_6814, sr_6961, sr_6962, sr_7362, sr_7363, sr_7364, su_6961, su_7362, su_7363]
        · refine hno (fun N => ?_) (fun N => ?_)
          · unfold xX11_group
            rw [x_isCpu h.1.1 hc, if_pos hcN, e_obi2, if_neg (by decide), x_isLine hl, if_neg hl8, e_obi2, if_pos (by decide)]
          · unfold xX12_group
            rw [r_isCpu h.1.1 (by omega) hc, if_pos hcN, e_obi2, if_neg (by decide), q_isLine hl, if_neg hl8, e_obi2, if_pos (by decide)]
      · refine hno (fun N => ?_) (fun N => ?_)
        · unfold xX11_group
          rw [x_isCpu h.1.1 hc, if_pos hcN, e_obi2, if_neg (by decide), x_isLineN hd, e_obi2, if_pos (by decide)]
        · unfold xX12_group
          rw [r_isCpu h.1.1 (by omega) hc, if_pos hcN, e_obi2, if_neg (by decide), q_isLineN hd, e_obi2, if_pos (by decide)]
    · refine hno (fun N => ?_) (fun N => ?_)
      · unfold xX11_group
        rw [x_isCpu h.1.1 hc, if_neg hcN, e_obi2, if_pos (by decide)]
      · unfold xX12_group
        rw [r_isCpu h.1.1 (by omega) hc, if_neg hcN, e_obi2, if_pos (by decide)]
  · refine hno (fun N => ?_) (fun N => ?_)
    · unfold xX11_group
      rw [x_isCpuN ha, e_obi2, if_pos (by decide)]
    · unfold xX12_group
      rw [q_isCpuN h.1.1 (by omega) ha, e_obi2, if_pos (by decide)]
theorem op_can {S : a_S} {b : Nat} (a d : Int32) (h : OKS S b) : OPN (xX11_can a d) (xX12_can_ a d) S b := by
  have hn := g_n h.1.1
  have sc := h.1.2.2.2.2.2.2.1
  unfold SC at sc
  have hno : ∀ (_ : ∀ N : j_M, xX11_can a d (XS N 2 S) = some (-1, XS N 2 S)) (_ : ∀ N : j_M, xX12_can_ a d (RS N S) = some (-1, RS N S)), OPN (xX11_can a d) (xX12_can_ a d) S b := fun h1 h2 => OPN_q h (-1) (fun N _ => h1 N) h2
  rcases i_cases a with ⟨c, hc, rfl⟩ | ha
  · by_cases hcN : c < S 1 0
    · rcases i_cases d with ⟨l, hl, rfl⟩ | hd
      · by_cases hl8 : l < 8
        · have hT := TK_le h.1 (show c < 7 by omega) hl8
          refine OPN_q h (if a_H S c l 2 then nI 2 else if a_H S c l 1 then nI 1 else nI 0) (fun N _ => ?_) (fun N => ?_)
          · unfold xX11_can
            rw [x_isCpu h.1.1 hc, if_pos hcN, e_obi2, if_neg (by decide), x_isLine hl, if_pos hl8, e_obi2, if_neg (by decide), x_wouldHit h.1.1 (by omega) hl8 (by omega) (by omega), e_obi2, x_wouldHit h.1.1 (by omega) hl8 (by omega) (by omega), e_obi2]
            by_cases h2 : a_H S c l 2
            · rw [if_pos h2, if_pos h2, if_neg (show ¬ nI 1 = (0 : Int32) by decide)]
            · rw [if_neg h2, if_neg h2, if_pos (show nI 0 = (0 : Int32) by decide)]
              by_cases h1 : a_H S c l 1
              · rw [if_pos h1, if_neg (show ¬ nI 1 = (0 : Int32) by decide)]
              · rw [if_neg h1, if_pos (show nI 0 = (0 : Int32) by decide)]
          · unfold xX12_can_
            rw [r_isCpu h.1.1 (by omega) hc, if_pos hcN, e_obi2, if_neg (by decide), q_isLine hl, if_pos hl8, e_obi2, if_neg (by decide), q_isHit h.1.1 (by omega) hl8 (by omega), e_obi2, q_isHit h.1.1 (by omega) hl8 (by omega), e_obi2]
            by_cases h2 : a_H S c l 2
            · rw [if_pos h2, if_pos h2, if_neg (show ¬ nI 1 = (0 : Int32) by decide)]
            · rw [if_neg h2, if_neg h2, if_pos (show nI 0 = (0 : Int32) by decide)]
              by_cases h1 : a_H S c l 1
              · rw [if_pos h1, if_neg (show ¬ nI 1 = (0 : Int32) by decide)]
              · rw [if_neg h1, if_pos (show nI 0 = (0 : Int32) by decide)]
        · refine hno (fun N => ?_) (fun N => ?_)
          · unfold xX11_can
            rw [x_isCpu h.1.1 hc, if_pos hcN, e_obi2, if_neg (by decide), x_isLine hl, if_neg hl8, e_obi2, if_pos (by decide)]
          · unfold xX12_can_
            rw [r_isCpu h.1.1 (by omega) hc, if_pos hcN, e_obi2, if_neg (by decide), q_isLine hl, if_neg hl8, e_obi2, if_pos (by decide)]
      · refine hno (fun N => ?_) (fun N => ?_)
        · unfold xX11_can
          rw [x_isCpu h.1.1 hc, if_pos hcN, e_obi2, if_neg (by decide), x_isLineN hd, e_obi2, if_pos (by decide)]
        · unfold xX12_can_
          rw [r_isCpu h.1.1 (by omega) hc, if_pos hcN, e_obi2, if_neg (by decide), q_isLineN hd, e_obi2, if_pos (by decide)]
    · refine hno (fun N => ?_) (fun N => ?_)
      · unfold xX11_can
        rw [x_isCpu h.1.1 hc, if_neg hcN, e_obi2, if_pos (by decide)]
      · unfold xX12_can_
        rw [r_isCpu h.1.1 (by omega) hc, if_neg hcN, e_obi2, if_pos (by decide)]
  · refine hno (fun N => ?_) (fun N => ?_)
    · unfold xX11_can
      rw [x_isCpuN ha, e_obi2, if_pos (by decide)]
    · unfold xX12_can_
      rw [q_isCpuN h.1.1 (by omega) ha, e_obi2, if_pos (by decide)]
theorem op_seen {S : a_S} {b : Nat} (a d : Int32) (h : OKS S b) : OPN (xX11_seen a d) (xX12_seen a d) S b := by
  have hn := g_n h.1.1
  have sc := h.1.2.2.2.2.2.2.1
  unfold SC at sc
  have hno : ∀ (_ : ∀ N : j_M, xX11_seen a d (XS N 2 S) = some (-1, XS N 2 S)) (_ : ∀ N : j_M, xX12_seen a d (RS N S) = some (-1, RS N S)), OPN (xX11_seen a d) (xX12_seen a d) S b := fun h1 h2 => OPN_q h (-1) (fun N _ => h1 N) h2
  rcases i_cases a with ⟨c, hc, rfl⟩ | ha
  · by_cases hcN : c < S 1 0
    · have g := g_s h.1.1 c
      have ex : ∀ N : j_M, xX11_seen (nI c) d (XS N 2 S) = if d = (-1 : Int32) then some (nI (S 2746 c), XS N 2 S) else (if d < (0 : Int32) then some ((-1 : Int32), XS N 2 S) else (if nI (S 2746 c) ≤ d then some ((-1 : Int32), XS N 2 S) else gd ((nI (60 * c)) + d) 360 (oli (XS N 2 S 15 (ix ((nI (60 * c)) + d))) fun v4 => some (v4, XS N 2 S)))) := by
        intro N
        unfold xX11_seen
        rw [x_isCpu h.1.1 hc, if_pos hcN, e_obi2, if_neg (by decide)]
        simp (disch := omega) only [e_gd, e_ix, e_oli2, y_16, e_mul, Nat.mul_comm c 60]
      have er : ∀ N : j_M, xX12_seen (nI c) d (RS N S) = if d = (-1 : Int32) then some (nI (S 2746 c), RS N S) else obi (xX12_isIn d (nI 0) (nI (S 2746 c) - (nI 1)) (RS N S)) fun v5 M4 => (if v5 = (0 : Int32) then some ((-1 : Int32), M4) else gd (((nI 2752) + ((nI 60) * (nI c))) + d) 7460 (oli (M4 201 (ix (((nI 2752) + ((nI 60) * (nI c))) + d))) fun v6 => some (v6, M4))) := by
        intro N
        unfold xX12_seen
        rw [r_isCpu h.1.1 (by omega) hc, if_pos hcN, e_obi2, if_neg (by decide)]
        simp (disch := omega) only [e_gd, e_ix, e_add, e_oli2, sr_2746]
      by_cases hm1 : d = -1
      · exact OPN_q h (nI (S 2746 c)) (fun N _ => by rw [ex, if_pos hm1]) (fun N => by rw [er, if_pos hm1])
      · rcases i_cases d with ⟨i, hi, rfl⟩ | hd
        · by_cases hlt : i < S 2746 c
          · refine OPN_q h (nI (S 2752 (60 * c + i))) (fun N _ => ?_) (fun N => ?_)
            · rw [ex, if_neg hm1]
              simp (disch := omega) only [e_gd, e_ix, e_oli2, e_oml2, e_obi2, e_obv2, e_add, e_mul, e_sub, e_eq, e_lt, e_le, e_eq0, e_0eq, e_lt0, e_0lt, e_le0, e_0le, e_m1, e_m1', e_m1lt, Nat.add_assoc, Nat.not_lt_zero, Nat.le_zero_eq, Nat.reduceAdd, y_4, y_5, y_6, y_7, y_8, y_11, y_12, y_13, y_14, y_15, y_16, y_17, y_18, y_19, y_20, y_21, y_10_11, y_10_12, y_10_13, y_10_14, xr_0_8, xr_0_9, xr_0_10, xr_0_11, xr_0_12, xr_0_13, xr_0_14, if_neg, if_false]
            · rw [er, if_neg hm1]
              simp (disch := omega) only [e_gd, e_ix, e_oli2, e_oml2, e_obi2, e_obv2, e_add, e_mul, e_sub, e_eq, e_lt, e_le, e_eq0, e_0eq, e_lt0, e_0lt, e_le0, e_0le, e_m1, e_m1', e_m1lt, Nat.add_assoc, Nat.not_lt_zero, Nat.le_zero_eq, m_isIn, sr_1, sr_14, sr_70, sr_126, sr_182, sr_238, sr_244, sr_292, sr_298, sr_304, sr_310, sr_316, sr_358, sr_400, sr_442, sr_484, sr_526, sr_532, sr_538, so_586, sr_586, sr_2746, sr_2752, sr_3112, sr_3118, sr_3124, sr_3130, sr_6730, sr_6736, sr_6766, sr_6814, sr_6961, sr_6962, sr_7362, sr_7363, sr_7364, su_6961, su_7362, su_7363]
              have c1 : 0 ≤ i ∧ i ≤ S 2746 c - 1 := by omega
              rw [if_pos c1, if_neg (by decide)]
          · refine hno (fun N => ?_) (fun N => ?_)
            · rw [ex, if_neg hm1]
              simp (disch := omega) only [e_gd, e_ix, e_oli2, e_oml2, e_obi2, e_obv2, e_add, e_mul, e_sub, e_eq, e_lt, e_le, e_eq0, e_0eq, e_lt0, e_0lt, e_le0, e_0le, e_m1, e_m1', e_m1lt, Nat.add_assoc, Nat.not_lt_zero, Nat.le_zero_eq, Nat.reduceAdd, y_4, y_5, y_6, y_7, y_8, y_11, y_12, y_13, y_14, y_15, y_16, y_17, y_18, y_19, y_20, y_21, y_10_11, y_10_12, y_10_13, y_10_14, xr_0_8, xr_0_9, xr_0_10, xr_0_11, xr_0_12, xr_0_13, xr_0_14, if_pos, if_false]
            · rw [er, if_neg hm1]
              by_cases h0 : S 2746 c = 0
              · have e1 : nI 0 - nI 1 = (-1 : Int32) := by decide
                unfold xX12_isIn
                rw [h0, e1]
                simp (disch := omega) only [e_gd, e_ix, e_oli2, e_oml2, e_obi2, e_obv2, e_add, e_mul, e_sub, e_eq, e_lt, e_le, e_eq0, e_0eq, e_lt0, e_0lt, e_le0, e_0le, e_m1, e_m1', e_m1lt, Nat.add_assoc, Nat.not_lt_zero, Nat.le_zero_eq, if_false, if_true]
              · simp (disch := omega) only [e_gd, e_ix, e_oli2, e_oml2, e_obi2, e_obv2, e_add, e_mul, e_sub, e_eq, e_lt, e_le, e_eq0, e_0eq, e_lt0, e_0lt, e_le0, e_0le, e_m1, e_m1', e_m1lt, Nat.add_assoc, Nat.not_lt_zero, Nat.le_zero_eq, m_isIn]
                have c1 : ¬ (0 ≤ i ∧ i ≤ S 2746 c - 1) := by omega
                rw [if_neg c1, if_pos (by decide)]
        · refine hno (fun N => ?_) (fun N => ?_)
          · rw [ex, if_neg hm1, if_pos hd]
          · rw [er, if_neg hm1]
            unfold xX12_isIn
            simp (disch := omega) only [e_gd, e_ix, e_oli2, e_oml2, e_obi2, e_obv2, e_add, e_mul, e_sub, e_eq, e_lt, e_le, e_eq0, e_0eq, e_lt0, e_0lt, e_le0, e_0le, e_m1, e_m1', e_m1lt, Nat.add_assoc, Nat.not_lt_zero, Nat.le_zero_eq, neg_lt hd, if_true]
    · refine hno (fun N => ?_) (fun N => ?_)
      · unfold xX11_seen
        rw [x_isCpu h.1.1 hc, if_neg hcN, e_obi2, if_pos (by decide)]
      · unfold xX12_seen
        rw [r_isCpu h.1.1 (by omega) hc, if_neg hcN, e_obi2, if_pos (by decide)]
  · refine hno (fun N => ?_) (fun N => ?_)
    · unfold xX11_seen
      rw [x_isCpuN ha, e_obi2, if_pos (by decide)]
    · unfold xX12_seen
      rw [q_isCpuN h.1.1 (by omega) ha, e_obi2, if_pos (by decide)]
theorem op_program {S : a_S} {b : Nat} (a d : Int32) (h : OKS S b) : OPN (xX11_program a d) (xX12_program a d) S b := by
  have hno : ∀ (_ : ∀ N : j_M, xX11_program a d (XS N 2 S) = some (-1, XS N 2 S)) (_ : ∀ N : j_M, xX12_program a d (RS N S) = some (-1, RS N S)), OPN (xX11_program a d) (xX12_program a d) S b := fun h1 h2 => OPN_q h (-1) (fun N _ => h1 N) h2
  rcases i_cases a with ⟨c, hc, rfl⟩ | ha
  · by_cases hc6 : c < 6
    · have er : ∀ N : j_M, xX12_program (nI c) d (RS N S) = (if d = (0 : Int32) then some (nI (S 3112 c), RS N S) else (if d = (nI 1) then some (nI (S 3118 c), RS N S) else (if d = (nI 2) then some (nI (S 3124 c), RS N S) else some ((-1 : Int32), RS N S)))) := by
        intro N
        unfold xX12_program
        rw [m_isIn _ hc (by omega) (by omega), if_pos (by omega), e_obi2, if_neg (by decide)]
        simp (disch := omega) only [e_gd, e_ix, e_oli2, e_oml2, e_obi2, e_obv2, e_add, e_mul, e_sub, e_eq, e_lt, e_le, e_eq0, e_0eq, e_lt0, e_0lt, e_le0, e_0le, e_m1, e_m1', e_m1lt, Nat.add_assoc, Nat.not_lt_zero, Nat.le_zero_eq, sr_1, sr_14, sr_70, sr_126, sr_182, sr_238, sr_244, sr_292, sr_298, sr_304, sr_310, sr_316, sr_358, sr_400, sr_442, sr_484, sr_526, sr_532, sr_538, so_586, sr_586, sr_2746, sr_2752, sr_3112, sr_3118, sr_3124, sr_3130, sr_6730, sr_6736, sr_6766, sr_6814, sr_6961, sr_6962, sr_7362, sr_7363, sr_7364, su_6961, su_7362, su_7363]
      rcases i_cases d with ⟨k, hk, rfl⟩ | hd
      · by_cases hk2 : k ≤ 2
        · refine OPN_q h (nI (if k = 0 then S 3112 c else if k = 1 then S 3118 c else S 3124 c)) (fun N hs => ?_) (fun N => ?_)
          · have s1 := hs.1 c hc6
            have e24 : N 24 c = nI (S 3112 c) := s1.1
            have e25 : N 25 c = nI (S 3118 c) := s1.2.1
            have e26 : N 26 c = nI (S 3124 c) := s1.2.2
            unfold xX11_program
            have ck : k = 0 ∨ k = 1 ∨ k = 2 := by omega
            rcases ck with rfl | rfl | rfl <;> simp (disch := omega) only [e_gd, e_ix, e_oli2, e_oml2, e_obi2, e_obv2, e_add, e_mul, e_sub, e_eq, e_lt, e_le, e_eq0, e_0eq, e_lt0, e_0lt, e_le0, e_0le, e_m1, e_m1', e_m1lt, Nat.add_assoc, Nat.not_lt_zero, Nat.le_zero_eq, Nat.reduceAdd, y_4, y_5, y_6, y_7, y_8, y_11, y_12, y_13, y_14, y_15, y_16, y_17, y_18, y_19, y_20, y_21, y_10_11, y_10_12, y_10_13, y_10_14, xr_0_8, xr_0_9, xr_0_10, xr_0_11, xr_0_12, xr_0_13, xr_0_14, xs_o, e24, e25, e26, if_pos, e_osw, e_eq, Nat.reduceEqDiff, if_true, if_false]
          · rw [er]
            have ck : k = 0 ∨ k = 1 ∨ k = 2 := by omega
            rcases ck with rfl | rfl | rfl <;> simp (disch := omega) only [e_eq, e_eq0, Nat.reduceEqDiff, if_true, if_false]
        · refine hno (fun N => ?_) (fun N => ?_)
          · unfold xX11_program
            simp (disch := omega) only [e_gd, e_ix, e_oli2, e_oml2, e_obi2, e_obv2, e_add, e_mul, e_sub, e_eq, e_lt, e_le, e_eq0, e_0eq, e_lt0, e_0lt, e_le0, e_0le, e_m1, e_m1', e_m1lt, Nat.add_assoc, Nat.not_lt_zero, Nat.le_zero_eq, if_pos, if_false, e_osw, e_osw0]
            rw [if_neg (by omega), if_neg (by omega), if_neg (by omega)]
          · rw [er]
            simp (disch := omega) only [e_gd, e_ix, e_oli2, e_oml2, e_obi2, e_obv2, e_add, e_mul, e_sub, e_eq, e_lt, e_le, e_eq0, e_0eq, e_lt0, e_0lt, e_le0, e_0le, e_m1, e_m1', e_m1lt, Nat.add_assoc, Nat.not_lt_zero, Nat.le_zero_eq]
            rw [if_neg (by omega), if_neg (by omega), if_neg (by omega)]
      · refine hno (fun N => ?_) (fun N => ?_)
        · unfold xX11_program
          simp (disch := omega) only [e_gd, e_ix, e_oli2, e_oml2, e_obi2, e_obv2, e_add, e_mul, e_sub, e_eq, e_lt, e_le, e_eq0, e_0eq, e_lt0, e_0lt, e_le0, e_0le, e_m1, e_m1', e_m1lt, Nat.add_assoc, Nat.not_lt_zero, Nat.le_zero_eq, if_pos, if_false, e_osw, e_osw0, neg_eq hd]
        · rw [er]
          simp (disch := omega) only [neg_e0 hd, neg_eq hd, if_false]
    · refine hno (fun N => ?_) (fun N => ?_)
      · unfold xX11_program
        simp (disch := omega) only [e_gd, e_ix, e_oli2, e_oml2, e_obi2, e_obv2, e_add, e_mul, e_sub, e_eq, e_lt, e_le, e_eq0, e_0eq, e_lt0, e_0lt, e_le0, e_0le, e_m1, e_m1', e_m1lt, Nat.add_assoc, Nat.not_lt_zero, Nat.le_zero_eq, if_false]
        rw [if_neg hc6]
      · unfold xX12_program
        rw [m_isIn _ hc (by omega) (by omega), if_neg (by omega), e_obi2, if_pos (by decide)]
  · refine hno (fun N => ?_) (fun N => ?_)
    · unfold xX11_program
      rw [if_pos ha]
    · unfold xX12_program
      rw [q_isInN ha (by omega), e_obi2, if_pos (by decide)]
