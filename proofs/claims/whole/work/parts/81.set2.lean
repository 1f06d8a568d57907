/-! ===== set as a call; the plan ===== -/
theorem x_pol {N : j_M} {S : a_S} {v : Nat} (hv : v < 2147483648) : xX1_setPolicy 2 (nI v) (XS N 2 S) = if v ≤ 3 then some (nI 1, XS N 2 (sw S 1 3 v)) else some (nI 0, XS N 2 S) := by
  unfold xX1_setPolicy
  simp (disch := omega) only [e_gd, e_ix, e_oli2, e_oml2, e_obi2, e_obv2, e_add, e_mul, e_sub, e_eq, e_lt, e_le, e_eq0, e_0eq, e_lt0, e_0lt, e_le0, e_0le, e_m1, e_m1', e_m1lt, Nat.add_assoc, Nat.not_lt_zero, Nat.le_zero_eq, Nat.reduceAdd, xr_4, xr_5, xr_6, xr_7, xr_13, xr_14, xr_3, xr_10, xr_11, xr_12, xr_15, xr_16, xr_17, xr_18, xr_19, xr_0_8, xr_0_9, xr_0_10, xr_0_11, xr_0_12, xr_0_13, xr_0_14, xr_8_11, xr_8_12, xr_8_13, xr_8_14, xr_h, xr_e, xr_u, xr_m, xr_2, xr_9, xw_4, xw_5, xw_6, xw_7, xw_13, xw_14, xw_3, xm_3, xw_10, xw_11, xw_12, xw_15, xw_16, xw_17, xw_18, xw_19, xw_0_8, xw_0_9, xw_0_10, xw_0_11, xw_0_12, xw_0_13, xw_0_14, xw_8_11, xw_8_12, xw_8_13, xw_8_14, xw_h, xw_e, if_false]
theorem r_set3 {N : j_M} {S : a_S} {v : Nat} (hv : v < 2147483648) : xX12_set (nI 3) (nI v) (RS N S) = if v ≤ 3 then some (nI 1, RS N (sw S 1 3 v)) else some (nI 0, RS N S) := by
  unfold xX12_set xX12_set_147 xX12_set_168 xX12_set_199
  rw [e_osw, if_neg (by decide), e_osw, if_neg (by decide), e_osw, if_neg (by decide), e_osw, if_pos rfl, if_pos rfl, if_neg (by decide), if_pos rfl, m_isIn _ hv (by omega) (by omega), e_obi2]
  by_cases h : v ≤ 3
  · have c1 : 0 ≤ v ∧ v ≤ 3 := by omega
    rw [if_pos c1, if_pos h, if_neg (show ¬ nI 1 = (0 : Int32) by decide), if_neg (show ¬ nI 3 = nI 2 by decide), if_pos rfl]
    simp (disch := omega) only [e_gd, e_ix, e_oli2, e_oml2, e_obi2, e_obv2, e_add, e_mul, e_sub, e_eq, e_lt, e_le, e_eq0, e_0eq, e_lt0, e_0lt, e_le0, e_0le, e_m1, e_m1', e_m1lt, Nat.add_assoc, Nat.not_lt_zero, Nat.le_zero_eq, st_1, st_14, st_70, st_126, st_182, st_238, st_244, sm_292, so_292, st_292, st_298, st_304, st_310, st_316, st_358, st_400, st_442, st_484, st_526, st_532, sm_538, so_538, st_538, sm_586, sn_586, sp_586, st_586, st_2746, st_2752, st_3112, st_3118, st_3124, st_3130, st_6730, st_6736, st_6766, st_6814, st_6961, st_6962, st_7362, st_7363, st_7364, sv_6961, sv_7362, sv_7363]
  · have c1 : ¬ (0 ≤ v ∧ v ≤ 3) := by omega
    rw [if_neg c1, if_neg h, if_pos (show nI 0 = (0 : Int32) by decide)]
theorem op_set {S : a_S} {b : Nat} (a d : Int32) (h : OKS S b) (hb : b + 100 ≤ 3000000) : OPN (xX11_set a d) (xX12_set a d) S (b + 100) := by
  have hn := g_n h.1.1
  have gT := g_T h.1.1
  have sc := h.1.2.2.2.2.2.2.1
  unfold SC at sc
  have hno : ∀ (_ : ∀ N : j_M, xX11_set a d (XS N 2 S) = some (nI 0, XS N 2 S)) (_ : ∀ N : j_M, xX12_set a d (RS N S) = some (nI 0, RS N S)), OPN (xX11_set a d) (xX12_set a d) S (b + 100) := fun h1 h2 => OPN_q (OKS_le h (by omega) hb) (nI 0) (fun N _ => h1 N) h2
  have stp : ∀ (i v : Nat), i < 6 → i ≠ 5 → ∀ r j, stt r j → ¬ (r = 1 ∧ j = 5) → ¬ (r = 1 ∧ j ≤ 4) → sw S 1 i v r j = S r j := fun i v hi h5 r j a b c => sw_ne (by omega)
  have scp : ∀ (N : j_M) (S' : a_S), SCP N 1 S → (∀ r j, ¬ (r = 1 ∧ j ≤ 4) → ¬ (r = 14) → S' r j = S r j) → SCP N 1 S' := by
    intro N S' hs hd
    unfold SCP at hs ⊢
    simp only [fun i => hd 3112 i (by omega) (by omega), fun i => hd 3118 i (by omega) (by omega), fun i => hd 3124 i (by omega) (by omega), fun i => hd 3130 i (by omega) (by omega), hd 7362 0 (by omega) (by omega), hd 7363 0 (by omega) (by omega), fun i => hd 7364 i (by omega) (by omega), hd 1 6 (by omega) (by omega)]
    exact hs
  have opk : ∀ (S' : a_S) (v : Int32), OKS S' (b + 100) → (∀ r j, ¬ (r = 1 ∧ j ≤ 4) → ¬ (r = 14) → S' r j = S r j) → (∀ N, xX11_set a d (XS N 2 S) = some (v, XS N 2 S')) → (∀ N, xX12_set a d (RS N S) = some (v, RS N S')) → OPN (xX11_set a d) (xX12_set a d) S (b + 100) :=
    fun S' v ok hd hF hG => ⟨v, S', ok, fun N hs => ⟨N, hF N, scp N S' hs hd, sce_r⟩, fun N => ⟨N 204, by rw [w4_id]; exact hG N⟩⟩
  rcases i_cases a with ⟨k, hk, rfl⟩ | ha
  · by_cases k0 : k = 0
    · subst k0
      have ex : ∀ N : j_M, xX11_set (nI 0) d (XS N 2 S) = obi (xX1_setCpus 2 d (XS N 2 S)) fun v2 M1 => gz v2 (some (v2, M1)) := by
        intro N
        unfold xX11_set
        rw [e_osw, if_pos rfl]
      rcases i_cases d with ⟨v, hv, rfl⟩ | hd
      · by_cases hr : 2 ≤ v ∧ v ≤ 6 ∧ v ≤ S 1 1
        · have e1 : ∀ N : j_M, xX1_setCpus 2 (nI v) (XS N 2 S) = obi (xX1_isAllHome 2 (XS N 2 S)) fun v3 M2 => (if v3 = (0 : Int32) then some ((nI 0), M2) else oml (mw M2 2 9 (nI v)) fun M4 => some ((nI 1), M4)) := by
            intro N
            unfold xX1_setCpus
            simp (disch := omega) only [e_gd, e_ix, e_oli2, e_oml2, e_obi2, e_obv2, e_add, e_mul, e_sub, e_eq, e_lt, e_le, e_eq0, e_0eq, e_lt0, e_0lt, e_le0, e_0le, e_m1, e_m1', e_m1lt, Nat.add_assoc, Nat.not_lt_zero, Nat.le_zero_eq, Nat.reduceAdd, xr_4, xr_5, xr_6, xr_7, xr_13, xr_14, xr_3, xr_10, xr_11, xr_12, xr_15, xr_16, xr_17, xr_18, xr_19, xr_0_8, xr_0_9, xr_0_10, xr_0_11, xr_0_12, xr_0_13, xr_0_14, xr_8_11, xr_8_12, xr_8_13, xr_8_14, xr_h, xr_e, xr_u, xr_m, xr_2, xr_9, if_neg]
          have e2 : ∀ N : j_M, xX12_set (nI 0) (nI v) (RS N S) = obi (xX12_isAtHome (RS N S)) fun v5 M4 => (if v5 = (0 : Int32) then some ((nI 0), M4) else gd (nI 0) 7460 (oml (mw M4 201 (ix (nI 0)) (nI v)) fun M6 => some ((nI 1), M6))) := by
            intro N
            unfold xX12_set
            rw [e_osw, if_pos rfl, m_isIn _ hv (by omega) (by omega), if_pos (by omega), e_obi2, if_neg (by decide)]
            simp (disch := omega) only [e_gd, e_ix, e_oli2, e_oml2, e_obi2, e_obv2, e_add, e_mul, e_sub, e_eq, e_lt, e_le, e_eq0, e_0eq, e_lt0, e_0lt, e_le0, e_0le, e_m1, e_m1', e_m1lt, Nat.add_assoc, Nat.not_lt_zero, Nat.le_zero_eq, sr_1, sr_14, sr_70, sr_126, sr_182, sr_238, sr_244, sr_292, sr_298, sr_304, sr_310, sr_316, sr_358, sr_400, sr_442, sr_484, sr_526, sr_532, sr_538, so_586, sr_586, sr_2746, sr_2752, sr_3112, sr_3118, sr_3124, sr_3130, sr_6730, sr_6736, sr_6766, sr_6814, sr_6961, sr_6962, sr_7362, sr_7363, sr_7364, su_6961, su_7362, su_7363, if_neg]
          by_cases hA : AH S
          · refine opk (sw S 1 0 v) (nI 1) (OKS_n h hb hA hr.1 hr.2.1 hr.2.2) (fun r j h1 _ => sw_ne (by omega)) (fun N => ?_) (fun N => ?_)
            · rw [ex, e1, (x_home h.1).1 hA, e_obi2, if_neg (by decide)]
              simp (disch := omega) only [e_gd, e_ix, e_oli2, e_oml2, e_obi2, e_obv2, e_add, e_mul, e_sub, e_eq, e_lt, e_le, e_eq0, e_0eq, e_lt0, e_0lt, e_le0, e_0le, e_m1, e_m1', e_m1lt, Nat.add_assoc, Nat.not_lt_zero, Nat.le_zero_eq, xw_4, xw_5, xw_6, xw_7, xw_13, xw_14, xw_3, xm_3, xw_10, xw_11, xw_12, xw_15, xw_16, xw_17, xw_18, xw_19, xw_0_8, xw_0_9, xw_0_10, xw_0_11, xw_0_12, xw_0_13, xw_0_14, xw_8_11, xw_8_12, xw_8_13, xw_8_14, xw_h, xw_e]
              rw [e_gz1]
            · rw [e2, (r_home h.1.1).1 hA, e_obi2, if_neg (by decide)]
              simp (disch := omega) only [e_gd, e_ix, e_oli2, e_oml2, e_obi2, e_obv2, e_add, e_mul, e_sub, e_eq, e_lt, e_le, e_eq0, e_0eq, e_lt0, e_0lt, e_le0, e_0le, e_m1, e_m1', e_m1lt, Nat.add_assoc, Nat.not_lt_zero, Nat.le_zero_eq, st_1, st_14, st_70, st_126, st_182, st_238, st_244, sm_292, so_292, st_292, st_298, st_304, st_310, st_316, st_358, st_400, st_442, st_484, st_526, st_532, sm_538, so_538, st_538, sm_586, sn_586, sp_586, st_586, st_2746, st_2752, st_3112, st_3118, st_3124, st_3130, st_6730, st_6736, st_6766, st_6814, st_6961, st_6962, st_7362, st_7363, st_7364, sv_6961, sv_7362, sv_7363]
          · refine hno (fun N => ?_) (fun N => ?_)
            · rw [ex, e1, (x_home h.1).2 hA, e_obi2, if_pos (by decide), e_obi2, e_gz0]
            · rw [e2, (r_home h.1.1).2 hA, e_obi2, if_pos (by decide)]
        · refine hno (fun N => ?_) (fun N => ?_)
          · rw [ex]
            have e1 : xX1_setCpus 2 (nI v) (XS N 2 S) = some (nI 0, XS N 2 S) := by
              unfold xX1_setCpus
              simp (disch := omega) only [e_gd, e_ix, e_oli2, e_oml2, e_obi2, e_obv2, e_add, e_mul, e_sub, e_eq, e_lt, e_le, e_eq0, e_0eq, e_lt0, e_0lt, e_le0, e_0le, e_m1, e_m1', e_m1lt, Nat.add_assoc, Nat.not_lt_zero, Nat.le_zero_eq, Nat.reduceAdd, xr_4, xr_5, xr_6, xr_7, xr_13, xr_14, xr_3, xr_10, xr_11, xr_12, xr_15, xr_16, xr_17, xr_18, xr_19, xr_0_8, xr_0_9, xr_0_10, xr_0_11, xr_0_12, xr_0_13, xr_0_14, xr_8_11, xr_8_12, xr_8_13, xr_8_14, xr_h, xr_e, xr_u, xr_m, xr_2, xr_9]
              by_cases c1 : v < 2
              · rw [if_pos c1]
              · rw [if_neg c1]
                by_cases c2 : 6 < v
                · rw [if_pos c2]
                · rw [if_neg c2, if_pos (by omega)]
            rw [e1, e_obi2, e_gz0]
          · unfold xX12_set
            rw [e_osw, if_pos rfl, m_isIn _ hv (by omega) (by omega), e_obi2]
            by_cases c1 : 2 ≤ v ∧ v ≤ 6
            · rw [if_pos c1, if_neg (by decide)]
              simp (disch := omega) only [e_gd, e_ix, e_oli2, e_oml2, e_obi2, e_obv2, e_add, e_mul, e_sub, e_eq, e_lt, e_le, e_eq0, e_0eq, e_lt0, e_0lt, e_le0, e_0le, e_m1, e_m1', e_m1lt, Nat.add_assoc, Nat.not_lt_zero, Nat.le_zero_eq, sr_1, sr_14, sr_70, sr_126, sr_182, sr_238, sr_244, sr_292, sr_298, sr_304, sr_310, sr_316, sr_358, sr_400, sr_442, sr_484, sr_526, sr_532, sr_538, so_586, sr_586, sr_2746, sr_2752, sr_3112, sr_3118, sr_3124, sr_3130, sr_6730, sr_6736, sr_6766, sr_6814, sr_6961, sr_6962, sr_7362, sr_7363, sr_7364, su_6961, su_7362, su_7363, if_pos]
            · rw [if_neg c1, if_pos (by decide)]
      · refine hno (fun N => ?_) (fun N => ?_)
        · rw [ex]
          unfold xX1_setCpus
          simp (disch := omega) only [neg_lt hd, if_true, e_obi2, e_gz0]
        · unfold xX12_set
          rw [e_osw, if_pos rfl, q_isInN hd (by omega), e_obi2, if_pos (by decide)]
    · by_cases k1 : k = 1
      · subst k1
        have ex : ∀ N : j_M, xX11_set (nI 1) d (XS N 2 S) = obi (xX1_setTokens 2 d (XS N 2 S)) fun v4 M3 => gz v4 (some (v4, M3)) := by
          intro N
          unfold xX11_set
          rw [e_osw, if_neg (by decide), e_osw, if_pos rfl]
        rcases i_cases d with ⟨v, hv, rfl⟩ | hd
        · by_cases hr : S 1 0 ≤ v ∧ v ≤ 12
          · have e1 : ∀ N : j_M, xX1_setTokens 2 (nI v) (XS N 2 S) = obi (xX1_isAllHome 2 (XS N 2 S)) fun v3 M2 => (if v3 = (0 : Int32) then some ((nI 0), M2) else xX1_setTokens_25 2 fu (nI v) (nI 0) M2) := by
              intro N
              unfold xX1_setTokens
              simp (disch := omega) only [e_gd, e_ix, e_oli2, e_oml2, e_obi2, e_obv2, e_add, e_mul, e_sub, e_eq, e_lt, e_le, e_eq0, e_0eq, e_lt0, e_0lt, e_le0, e_0le, e_m1, e_m1', e_m1lt, Nat.add_assoc, Nat.not_lt_zero, Nat.le_zero_eq, Nat.reduceAdd, xr_4, xr_5, xr_6, xr_7, xr_13, xr_14, xr_3, xr_10, xr_11, xr_12, xr_15, xr_16, xr_17, xr_18, xr_19, xr_0_8, xr_0_9, xr_0_10, xr_0_11, xr_0_12, xr_0_13, xr_0_14, xr_8_11, xr_8_12, xr_8_13, xr_8_14, xr_h, xr_e, xr_u, xr_m, xr_2, xr_9, if_neg]
            have e2 : ∀ N : j_M, xX12_set (nI 1) (nI v) (RS N S) = obi (xX12_isAtHome (RS N S)) fun v11 M10 => (if v11 = (0 : Int32) then some ((nI 0), M10) else gd (nI 1) 7460 (oml (mw M10 201 (ix (nI 1)) (nI v)) fun M12 => xX12_set_107 fu (nI v) (nI 0) M12)) := by
              intro N
              unfold xX12_set
              rw [e_osw, if_neg (by decide), e_osw, if_pos rfl]
              simp (disch := omega) only [e_gd, e_ix, e_oli2, e_oml2, e_obi2, e_obv2, e_add, e_mul, e_sub, e_eq, e_lt, e_le, e_eq0, e_0eq, e_lt0, e_0lt, e_le0, e_0le, e_m1, e_m1', e_m1lt, Nat.add_assoc, Nat.not_lt_zero, Nat.le_zero_eq, sr_1, sr_14, sr_70, sr_126, sr_182, sr_238, sr_244, sr_292, sr_298, sr_304, sr_310, sr_316, sr_358, sr_400, sr_442, sr_484, sr_526, sr_532, sr_538, so_586, sr_586, sr_2746, sr_2752, sr_3112, sr_3118, sr_3124, sr_3130, sr_6730, sr_6736, sr_6766, sr_6814, sr_6961, sr_6962, sr_7362, sr_7363, sr_7364, su_6961, su_7362, su_7363, m_isIn]
              rw [if_pos hr, if_neg (by decide)]
            by_cases hA : AH S
            · have t0 : a_tok S v 0 = S := by
                funext r i
                unfold a_tok
                rw [if_neg (by omega)]
              refine opk (sw (a_tok S v 8) 1 1 v) (nI 1) (OKS_t h hb hA hr.1 hr.2) (fun r j h1 h2 => by rw [sw_ne (by omega), tok_o (fun e => h2 e.1)]) (fun N => ?_) (fun N => ?_)
              · have e3 := x_tok (N := N) h.1.1 (AH_l hA).1 hr.2 8 (1000000 - 9) 0 (by omega)
                rw [show 1000000 - 9 + 8 + 1 = fu by unfold fu; omega, t0] at e3
                rw [ex, e1, (x_home h.1).1 hA, e_obi2, if_neg (by decide), e3, e_obi2, e_gz1]
              · have e3 := r_tok (N := N) (S := S) (v := v) 8 (1000000 - 9) 0 (by omega)
                rw [show 1000000 - 9 + 8 + 1 = fu by unfold fu; omega, t0] at e3
                rw [e2, (r_home h.1.1).1 hA, e_obi2, if_neg (by decide)]
                simp (disch := omega) only [e_gd, e_ix, e_oli2, e_oml2, e_obi2, e_obv2, e_add, e_mul, e_sub, e_eq, e_lt, e_le, e_eq0, e_0eq, e_lt0, e_0lt, e_le0, e_0le, e_m1, e_m1', e_m1lt, Nat.add_assoc, Nat.not_lt_zero, Nat.le_zero_eq, st_1, st_14, st_70, st_126, st_182, st_238, st_244, sm_292, so_292, st_292, st_298, st_304, st_310, st_316, st_358, st_400, st_442, st_484, st_526, st_532, sm_538, so_538, st_538, sm_586, sn_586, sp_586, st_586, st_2746, st_2752, st_3112, st_3118, st_3124, st_3130, st_6730, st_6736, st_6766, st_6814, st_6961, st_6962, st_7362, st_7363, st_7364, sv_6961, sv_7362, sv_7363]
                exact e3
            · refine hno (fun N => ?_) (fun N => ?_)
              · rw [ex, e1, (x_home h.1).2 hA, e_obi2, if_pos (by decide), e_obi2, e_gz0]
              · rw [e2, (r_home h.1.1).2 hA, e_obi2, if_pos (by decide)]
          · refine hno (fun N => ?_) (fun N => ?_)
            · rw [ex]
              have e1 : xX1_setTokens 2 (nI v) (XS N 2 S) = some (nI 0, XS N 2 S) := by
                unfold xX1_setTokens
                simp (disch := omega) only [e_gd, e_ix, e_oli2, e_oml2, e_obi2, e_obv2, e_add, e_mul, e_sub, e_eq, e_lt, e_le, e_eq0, e_0eq, e_lt0, e_0lt, e_le0, e_0le, e_m1, e_m1', e_m1lt, Nat.add_assoc, Nat.not_lt_zero, Nat.le_zero_eq, Nat.reduceAdd, xr_4, xr_5, xr_6, xr_7, xr_13, xr_14, xr_3, xr_10, xr_11, xr_12, xr_15, xr_16, xr_17, xr_18, xr_19, xr_0_8, xr_0_9, xr_0_10, xr_0_11, xr_0_12, xr_0_13, xr_0_14, xr_8_11, xr_8_12, xr_8_13, xr_8_14, xr_h, xr_e, xr_u, xr_m, xr_2, xr_9]
                by_cases c1 : v < S 1 0
                · rw [if_pos c1]
                · rw [if_neg c1, if_pos (by omega)]
              rw [e1, e_obi2, e_gz0]
            · unfold xX12_set
              rw [e_osw, if_neg (by decide), e_osw, if_pos rfl]
              simp (disch := omega) only [e_gd, e_ix, e_oli2, e_oml2, e_obi2, e_obv2, e_add, e_mul, e_sub, e_eq, e_lt, e_le, e_eq0, e_0eq, e_lt0, e_0lt, e_le0, e_0le, e_m1, e_m1', e_m1lt, Nat.add_assoc, Nat.not_lt_zero, Nat.le_zero_eq, sr_1, sr_14, sr_70, sr_126, sr_182, sr_238, sr_244, sr_292, sr_298, sr_304, sr_310, sr_316, sr_358, sr_400, sr_442, sr_484, sr_526, sr_532, sr_538, so_586, sr_586, sr_2746, sr_2752, sr_3112, sr_3118, sr_3124, sr_3130, sr_6730, sr_6736, sr_6766, sr_6814, sr_6961, sr_6962, sr_7362, sr_7363, sr_7364, su_6961, su_7362, su_7363, m_isIn]
              rw [if_neg hr, if_pos (by decide)]
        · refine hno (fun N => ?_) (fun N => ?_)
          · rw [ex]
            unfold xX1_setTokens
            simp (disch := omega) only [e_gd, e_ix, e_oli2, e_oml2, e_obi2, e_obv2, e_add, e_mul, e_sub, e_eq, e_lt, e_le, e_eq0, e_0eq, e_lt0, e_0lt, e_le0, e_0le, e_m1, e_m1', e_m1lt, Nat.add_assoc, Nat.not_lt_zero, Nat.le_zero_eq, Nat.reduceAdd, xr_4, xr_5, xr_6, xr_7, xr_13, xr_14, xr_3, xr_10, xr_11, xr_12, xr_15, xr_16, xr_17, xr_18, xr_19, xr_0_8, xr_0_9, xr_0_10, xr_0_11, xr_0_12, xr_0_13, xr_0_14, xr_8_11, xr_8_12, xr_8_13, xr_8_14, xr_h, xr_e, xr_u, xr_m, xr_2, xr_9, neg_lt hd, if_true]
            exact e_gz0
          · unfold xX12_set
            rw [e_osw, if_neg (by decide), e_osw, if_pos rfl]
            simp (disch := omega) only [e_gd, e_ix, e_oli2, e_oml2, e_obi2, e_obv2, e_add, e_mul, e_sub, e_eq, e_lt, e_le, e_eq0, e_0eq, e_lt0, e_0lt, e_le0, e_0le, e_m1, e_m1', e_m1lt, Nat.add_assoc, Nat.not_lt_zero, Nat.le_zero_eq, sr_1, sr_14, sr_70, sr_126, sr_182, sr_238, sr_244, sr_292, sr_298, sr_304, sr_310, sr_316, sr_358, sr_400, sr_442, sr_484, sr_526, sr_532, sr_538, so_586, sr_586, sr_2746, sr_2752, sr_3112, sr_3118, sr_3124, sr_3130, sr_6730, sr_6736, sr_6766, sr_6814, sr_6961, sr_6962, sr_7362, sr_7363, sr_7364, su_6961, su_7362, su_7363, q_isInN hd, if_true]
      · by_cases k3 : k = 3
        · subst k3
          have ex : ∀ N : j_M, xX11_set (nI 3) d (XS N 2 S) = obi (xX1_setPolicy 2 d (XS N 2 S)) fun v8 M7 => gz v8 (some (v8, M7)) := by
            intro N
            unfold xX11_set
            rw [e_osw, if_neg (by decide), e_osw, if_neg (by decide), e_osw, if_neg (by decide), e_osw, if_pos rfl]
          rcases i_cases d with ⟨v, hv, rfl⟩ | hd
          · by_cases hr : v ≤ 3
            · refine opk (sw S 1 3 v) (nI 1) (OKS_par h hb (Or.inr (Or.inl ⟨rfl, hr⟩))) (fun r j h1 _ => sw_ne (by omega)) (fun N => ?_) (fun N => ?_)
              · rw [ex, x_pol hv, if_pos hr, e_obi2, e_gz1]
              · rw [r_set3 hv, if_pos hr]
            · refine hno (fun N => ?_) (fun N => ?_)
              · rw [ex, x_pol hv, if_neg hr, e_obi2, e_gz0]
              · rw [r_set3 hv, if_neg hr]
          · refine hno (fun N => ?_) (fun N => ?_)
            · rw [ex]
              unfold xX1_setPolicy
              rw [if_pos hd, e_obi2, e_gz0]
            · unfold xX12_set xX12_set_147 xX12_set_168
              rw [e_osw, if_neg (by decide), e_osw, if_neg (by decide), e_osw, if_neg (by decide), e_osw, if_pos rfl, if_pos rfl, if_neg (by decide), if_pos rfl, q_isInN hd (by omega), e_obi2, if_pos (by decide)]
        · by_cases k24 : k = 2 ∨ k = 4
          · have ex : ∀ N : j_M, xX11_set (nI k) d (XS N 2 S) = if k = 2 then (obi (xX1_setRoom 2 d (XS N 2 S)) fun v6 M5 => gz v6 (some (v6, M5))) else (obi (xX1_setPatience 2 d (XS N 2 S)) fun v10 M9 => gz v10 (some (v10, M9))) := by
              intro N
              unfold xX11_set
              rcases k24 with rfl | rfl
              · rw [e_osw, if_neg (by decide), e_osw, if_neg (by decide), e_osw, if_pos rfl, if_pos rfl]
              · rw [e_osw, if_neg (by decide), e_osw, if_neg (by decide), e_osw, if_neg (by decide), e_osw, if_neg (by decide), e_osw, if_pos rfl, if_neg (by omega)]
            have er : ∀ N : j_M, xX12_set (nI k) d (RS N S) = obi (xX12_isIn d (nI 1) (nI (if k = 2 then 8 else 20)) (RS N S)) fun v2 M1 => (if v2 = (0 : Int32) then some ((nI 0), M1) else xX12_set_199 d (nI k) M1) := by
              intro N
              unfold xX12_set xX12_set_147 xX12_set_168
              rcases k24 with rfl | rfl
              · rw [e_osw, if_neg (by decide), e_osw, if_neg (by decide), e_osw, if_pos rfl, if_neg (by decide), if_pos rfl, if_pos rfl]
                rfl
              · rw [e_osw, if_neg (by decide), e_osw, if_neg (by decide), e_osw, if_neg (by decide), e_osw, if_neg (by decide), e_osw, if_pos rfl, if_neg (by decide), if_neg (by decide), if_neg (by decide), if_neg (by omega)]
                rfl
            rcases i_cases d with ⟨v, hv, rfl⟩ | hd
            · by_cases hr : 1 ≤ v ∧ v ≤ (if k = 2 then 8 else 20)
              · have hr2 : v ≤ 20 := by
                  have := hr.2
                  split at this <;> omega
                refine opk (sw S 1 k v) (nI 1) (OKS_par h hb (by
                  rcases k24 with rfl | rfl
                  · exact Or.inl ⟨rfl, hr.1, hr.2⟩
                  · exact Or.inr (Or.inr ⟨rfl, hr.1, hr.2⟩))) (fun r j h1 _ => sw_ne (by omega)) (fun N => ?_) (fun N => ?_)
                · rw [ex]
                  rcases k24 with rfl | rfl
                  · rw [if_pos rfl] at hr
                    unfold xX1_setRoom
                    rw [if_pos rfl, f_lt (by omega) (by omega), if_neg (by omega), f_le (by omega) (by omega), if_pos hr.2, e_oml2, xw_0_11 (by omega), e_obi2, e_gz1]
                  · rw [if_neg (by omega)] at hr
                    unfold xX1_setPatience
                    rw [if_neg (by omega), f_lt (by omega) (by omega), if_neg (by omega), f_le (by omega) (by omega), if_pos hr.2, e_oml2, xw_0_13 (by omega), e_obi2, e_gz1]
                · rw [er, m_isIn _ hv (by omega) (by split <;> omega), if_pos hr, e_obi2, if_neg (by decide)]
                  unfold xX12_set_199
                  simp (disch := omega) only [e_gd, e_ix, e_oli2, e_oml2, e_obi2, e_obv2, e_add, e_mul, e_sub, e_eq, e_lt, e_le, e_eq0, e_0eq, e_lt0, e_0lt, e_le0, e_0le, e_m1, e_m1', e_m1lt, Nat.add_assoc, Nat.not_lt_zero, Nat.le_zero_eq, st_1, st_14, st_70, st_126, st_182, st_238, st_244, sm_292, so_292, st_292, st_298, st_304, st_310, st_316, st_358, st_400, st_442, st_484, st_526, st_532, sm_538, so_538, st_538, sm_586, sn_586, sp_586, st_586, st_2746, st_2752, st_3112, st_3118, st_3124, st_3130, st_6730, st_6736, st_6766, st_6814, st_6961, st_6962, st_7362, st_7363, st_7364, sv_6961, sv_7362, sv_7363]
              · refine hno (fun N => ?_) (fun N => ?_)
                · rw [ex]
                  rcases k24 with rfl | rfl
                  · rw [if_pos rfl] at hr
                    have e1 : xX1_setRoom 2 (nI v) (XS N 2 S) = some (nI 0, XS N 2 S) := by
                      unfold xX1_setRoom
                      simp (disch := omega) only [e_gd, e_ix, e_oli2, e_oml2, e_obi2, e_obv2, e_add, e_mul, e_sub, e_eq, e_lt, e_le, e_eq0, e_0eq, e_lt0, e_0lt, e_le0, e_0le, e_m1, e_m1', e_m1lt, Nat.add_assoc, Nat.not_lt_zero, Nat.le_zero_eq, Nat.reduceAdd, xr_4, xr_5, xr_6, xr_7, xr_13, xr_14, xr_3, xr_10, xr_11, xr_12, xr_15, xr_16, xr_17, xr_18, xr_19, xr_0_8, xr_0_9, xr_0_10, xr_0_11, xr_0_12, xr_0_13, xr_0_14, xr_8_11, xr_8_12, xr_8_13, xr_8_14, xr_h, xr_e, xr_u, xr_m, xr_2, xr_9]
                      by_cases c1 : v < 1
                      · rw [if_pos c1]
                      · rw [if_neg c1, if_neg (by omega)]
                    rw [if_pos rfl, e1, e_obi2, e_gz0]
                  · rw [if_neg (by omega)] at hr
                    have e1 : xX1_setPatience 2 (nI v) (XS N 2 S) = some (nI 0, XS N 2 S) := by
                      unfold xX1_setPatience
                      simp (disch := omega) only [e_gd, e_ix, e_oli2, e_oml2, e_obi2, e_obv2, e_add, e_mul, e_sub, e_eq, e_lt, e_le, e_eq0, e_0eq, e_lt0, e_0lt, e_le0, e_0le, e_m1, e_m1', e_m1lt, Nat.add_assoc, Nat.not_lt_zero, Nat.le_zero_eq, Nat.reduceAdd, xr_4, xr_5, xr_6, xr_7, xr_13, xr_14, xr_3, xr_10, xr_11, xr_12, xr_15, xr_16, xr_17, xr_18, xr_19, xr_0_8, xr_0_9, xr_0_10, xr_0_11, xr_0_12, xr_0_13, xr_0_14, xr_8_11, xr_8_12, xr_8_13, xr_8_14, xr_h, xr_e, xr_u, xr_m, xr_2, xr_9]
                      by_cases c1 : v < 1
                      · rw [if_pos c1]
                      · rw [if_neg c1, if_neg (by omega)]
                    rw [if_neg (by omega), e1, e_obi2, e_gz0]
                · rw [er, m_isIn _ hv (by omega) (by split <;> omega), if_neg hr, e_obi2, if_pos (by decide)]
            · refine hno (fun N => ?_) (fun N => ?_)
              · rw [ex]
                unfold xX1_setRoom xX1_setPatience
                simp (disch := omega) only [neg_lt hd, if_true, e_obi2, e_gz0, ite_self]
              · rw [er, q_isInN hd (by omega), e_obi2, if_pos (by decide)]
          · refine hno (fun N => ?_) (fun N => ?_)
            · unfold xX11_set
              simp (disch := omega) only [e_osw, e_osw0, e_eq]
              rw [if_neg k0, if_neg k1, if_neg (by omega), if_neg k3, if_neg (by omega)]
            · unfold xX12_set
              simp (disch := omega) only [e_osw, e_osw0, e_eq]
              rw [if_neg k0, if_neg k1, if_neg (by omega), if_neg k3, if_neg (by omega)]
  · refine hno (fun N => ?_) (fun N => ?_)
    · unfold xX11_set
      simp (disch := omega) only [e_osw, e_osw0, neg_eq ha, if_false]
    · unfold xX12_set
      simp (disch := omega) only [e_osw, e_osw0, neg_eq ha, if_false]
