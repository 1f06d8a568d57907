/-! ===== where, worth, look as calls ===== -/
theorem q_owner {N : j_M} {S : a_S} {l : Nat} (h : RG S) (hl : l < 8) : xX12_ownerAt (nI l) (RS N S) = some (oI (fr (fun x => S 70 (8 * x + l) = 1) 7 0), RS N S) := by
  have e := r_owner (N := N) h hl 7 (1000000 - 8) 0 (by omega)
  rw [show 1000000 - 8 + 7 + 1 = fu by unfold fu; omega] at e
  exact e
theorem op_where {S : a_S} {b : Nat} (a d : Int32) (h : OKS S b) : OPN (xX11_where a d) (xX12_where a d) S b := by
  have hn := g_n h.1.1
  have hq := INV_q h.1
  have hno : ∀ (_ : ∀ N : j_M, xX11_where a d (XS N 2 S) = some (-2, XS N 2 S)) (_ : ∀ N : j_M, xX12_where a d (RS N S) = some (-2, RS N S)), OPN (xX11_where a d) (xX12_where a d) S b := fun h1 h2 => OPN_q h (-2) (fun N _ => h1 N) h2
  rcases i_cases a with ⟨l, hl, rfl⟩ | ha
  · by_cases hl8 : l < 8
    · have x1 : ∀ N : j_M, xX1_cpusThatCan 2 (nI l) (nI 1) (XS N 2 S) = some (nI (a_set (fun c => a_H S c l 1) (S 1 0) 0 0), XS N 2 S) := by
        intro N
        have e := x_can_l (N := N) h.1 hl8 (S 1 0) (1000000 - (S 1 0 + 1)) 0 0 (by omega)
        rw [show 1000000 - (S 1 0 + 1) + S 1 0 + 1 = fu by unfold fu; omega] at e
        exact e
      have r1 : ∀ N : j_M, xX12_setOf (nI l) (nI 0) (RS N S) = some (nI (a_set (fun c => a_H S c l 1) (S 1 0) 0 0), RS N S) ∧ xX12_setOf (nI l) (nI 1) (RS N S) = some (nI (a_set (fun c => S 292 c = l + 1) (S 1 0) 0 0), RS N S) := by
        intro N
        have e := r_set_l (N := N) h.1 hl8 (S 1 0) (1000000 - (S 1 0 + 1)) 0 0 (by omega)
        rw [show 1000000 - (S 1 0 + 1) + S 1 0 + 1 = fu by unfold fu; omega] at e
        exact e
      have x2 : ∀ N : j_M, xX1_writerOf 2 (nI l) (XS N 2 S) = some (oI (fr (fun c => a_H S c l 2) (S 1 0) 0), XS N 2 S) ∧ ∀ N' : j_M, xX12_storer (nI l) (RS N' S) = some (oI (fr (fun c => a_H S c l 2) (S 1 0) 0), RS N' S) := by
        intro N
        have e := x_wri_l (N := N) h.1 hl8 (S 1 0) (1000000 - (S 1 0 + 1)) 0 (by omega)
        rw [show 1000000 - (S 1 0 + 1) + S 1 0 + 1 = fu by unfold fu; omega] at e
        exact e
      have x3 : ∀ N : j_M, xX1_nodesWithTokens 2 (nI l) (XS N 2 S) = some (nI (0 + cn (fun x => 0 < S 14 (8 * x + l)) 7 0), XS N 2 S) ∧ ∀ N' : j_M, xX12_havers (nI l) (RS N' S) = some (nI (0 + cn (fun x => 0 < S 14 (8 * x + l)) 7 0), RS N' S) := by
        intro N
        have e := x_hav_l (N := N) h.1.1 hl8 7 (1000000 - 8) 0 0 (by omega)
        rw [show 1000000 - 8 + 7 + 1 = fu by unfold fu; omega] at e
        exact e
      have x4 : ∀ N : j_M, xX1_tokensOnWay 2 (nI l) (XS N 2 S) = some (nI (0 + sm2 (wl S l) (S 1 7) 0), XS N 2 S) ∧ ∀ N' : j_M, xX12_ofLineOnTheWay (nI l) (RS N' S) = some (nI (0 + sm2 (wl S l) (S 1 7) 0), RS N' S) := by
        intro N
        have e := x_way_l (N := N) h.1 hl8 (S 1 7) (1000000 - (S 1 7 + 1)) 0 0 (by omega)
        rw [show 1000000 - (S 1 7 + 1) + S 1 7 + 1 = fu by unfold fu; omega] at e
        exact e
      have x5 : ∀ N : j_M, xX1_cpusThatMiss 2 (nI l) (XS N 2 S) = some (nI (a_set (fun c => S 292 c = l + 1) (S 1 0) 0 0), XS N 2 S) := by
        intro N
        have e := x_mis_l (N := N) h.1 hl8 (S 1 0) (1000000 - (S 1 0 + 1)) 0 0 (by omega)
        rw [show 1000000 - (S 1 0 + 1) + S 1 0 + 1 = fu by unfold fu; omega] at e
        exact e
      have x6 : ∀ N : j_M, xX1_nodesWithTurn 2 (nI l) (XS N 2 S) = some (nI (0 + cn (fun x => (x < S 1 0 ∨ x = 6) ∧ a_turn S x l ≠ 0) 7 0), XS N 2 S) ∧ ∀ N' : j_M, xX12_tablesOf (nI l) (RS N' S) = some (nI (0 + cn (fun x => (x < S 1 0 ∨ x = 6) ∧ a_turn S x l ≠ 0) 7 0), RS N' S) := by
        intro N
        have e := x_trn_l (N := N) h.1 hl8 7 (1000000 - 8) 0 0 (by omega)
        rw [show 1000000 - 8 + 7 + 1 = fu by unfold fu; omega] at e
        exact e
      have ex : ∀ N : j_M, xX11_where (nI l) d (XS N 2 S) = osw d [((nI 0), some (oI (fr (fun x => S 70 (8 * x + l) = 1) 7 0), XS N 2 S)), ((nI 1), some (nI (a_set (fun c => a_H S c l 1) (S 1 0) 0 0), XS N 2 S)), ((nI 2), some (oI (fr (fun c => a_H S c l 2) (S 1 0) 0), XS N 2 S)), ((nI 3), some (nI (0 + cn (fun x => 0 < S 14 (8 * x + l)) 7 0), XS N 2 S)), ((nI 4), some (nI (0 + sm2 (wl S l) (S 1 7) 0), XS N 2 S)), ((nI 5), some (nI (a_set (fun c => S 292 c = l + 1) (S 1 0) 0 0), XS N 2 S)), ((nI 6), some (nI (0 + cn (fun x => (x < S 1 0 ∨ x = 6) ∧ a_turn S x l ≠ 0) 7 0), XS N 2 S))] (some ((-2 : Int32), XS N 2 S)) := by
        intro N
        unfold xX11_where
        rw [x_isLine hl, if_pos hl8, e_obi2, if_neg (by decide), x_owner h.1.1 hl8, e_obi2, x1, e_obi2, (x2 N).1, e_obi2, (x3 N).1, e_obi2, (x4 N).1, e_obi2, x5, e_obi2, (x6 N).1, e_obi2]
      have er : ∀ N : j_M, xX12_where (nI l) d (RS N S) = osw d [((nI 0), some (oI (fr (fun x => S 70 (8 * x + l) = 1) 7 0), RS N S)), ((nI 1), some (nI (a_set (fun c => a_H S c l 1) (S 1 0) 0 0), RS N S)), ((nI 2), some (oI (fr (fun c => a_H S c l 2) (S 1 0) 0), RS N S)), ((nI 3), some (nI (0 + cn (fun x => 0 < S 14 (8 * x + l)) 7 0), RS N S)), ((nI 4), some (nI (0 + sm2 (wl S l) (S 1 7) 0), RS N S)), ((nI 5), some (nI (a_set (fun c => S 292 c = l + 1) (S 1 0) 0 0), RS N S)), ((nI 6), some (nI (0 + cn (fun x => (x < S 1 0 ∨ x = 6) ∧ a_turn S x l ≠ 0) 7 0), RS N S))] (some ((-2 : Int32), RS N S)) := by
        intro N
        unfold xX12_where
        rw [q_isLine hl, if_pos hl8, e_obi2, if_neg (by decide), q_owner h.1.1 hl8, e_obi2, (r1 N).1, e_obi2, (x2 N).2, e_obi2, (x3 N).2, e_obi2, (x4 N).2, e_obi2, (r1 N).2, e_obi2, (x6 N).2, e_obi2]
      rcases i_cases d with ⟨k, hk, rfl⟩ | hd
      · have ck : k = 0 ∨ k = 1 ∨ k = 2 ∨ k = 3 ∨ k = 4 ∨ k = 5 ∨ k = 6 ∨ 7 ≤ k := by omega
        rcases ck with rfl | rfl | rfl | rfl | rfl | rfl | rfl | hk7
        · exact OPN_q h _ (fun N _ => by rw [ex, e_osw, if_pos rfl]) (fun N => by rw [er, e_osw, if_pos rfl])
        · exact OPN_q h _ (fun N _ => by rw [ex, e_osw, if_neg (by decide), e_osw, if_pos rfl]) (fun N => by rw [er, e_osw, if_neg (by decide), e_osw, if_pos rfl])
        · exact OPN_q h _ (fun N _ => by rw [ex, e_osw, if_neg (by decide), e_osw, if_neg (by decide), e_osw, if_pos rfl]) (fun N => by rw [er, e_osw, if_neg (by decide), e_osw, if_neg (by decide), e_osw, if_pos rfl])
        · exact OPN_q h _ (fun N _ => by rw [ex, e_osw, if_neg (by decide), e_osw, if_neg (by decide), e_osw, if_neg (by decide), e_osw, if_pos rfl]) (fun N => by rw [er, e_osw, if_neg (by decide), e_osw, if_neg (by decide), e_osw, if_neg (by decide), e_osw, if_pos rfl])
        · exact OPN_q h _ (fun N _ => by rw [ex, e_osw, if_neg (by decide), e_osw, if_neg (by decide), e_osw, if_neg (by decide), e_osw, if_neg (by decide), e_osw, if_pos rfl]) (fun N => by rw [er, e_osw, if_neg (by decide), e_osw, if_neg (by decide), e_osw, if_neg (by decide), e_osw, if_neg (by decide), e_osw, if_pos rfl])
        · exact OPN_q h _ (fun N _ => by rw [ex, e_osw, if_neg (by decide), e_osw, if_neg (by decide), e_osw, if_neg (by decide), e_osw, if_neg (by decide), e_osw, if_neg (by decide), e_osw, if_pos rfl]) (fun N => by rw [er, e_osw, if_neg (by decide), e_osw, if_neg (by decide), e_osw, if_neg (by decide), e_osw, if_neg (by decide), e_osw, if_neg (by decide), e_osw, if_pos rfl])
        · exact OPN_q h _ (fun N _ => by rw [ex, e_osw, if_neg (by decide), e_osw, if_neg (by decide), e_osw, if_neg (by decide), e_osw, if_neg (by decide), e_osw, if_neg (by decide), e_osw, if_neg (by decide), e_osw, if_pos rfl]) (fun N => by rw [er, e_osw, if_neg (by decide), e_osw, if_neg (by decide), e_osw, if_neg (by decide), e_osw, if_neg (by decide), e_osw, if_neg (by decide), e_osw, if_neg (by decide), e_osw, if_pos rfl])
        · refine hno (fun N => ?_) (fun N => ?_)
          · rw [ex]
            simp (disch := omega) only [e_osw, e_osw0, e_eq]
            rw [if_neg (by omega), if_neg (by omega), if_neg (by omega), if_neg (by omega), if_neg (by omega), if_neg (by omega), if_neg (by omega)]
          · rw [er]
            simp (disch := omega) only [e_osw, e_osw0, e_eq]
            rw [if_neg (by omega), if_neg (by omega), if_neg (by omega), if_neg (by omega), if_neg (by omega), if_neg (by omega), if_neg (by omega)]
      · refine hno (fun N => ?_) (fun N => ?_)
        · rw [ex]; simp (disch := omega) only [e_osw, e_osw0, neg_eq hd, if_false]
        · rw [er]; simp (disch := omega) only [e_osw, e_osw0, neg_eq hd, if_false]
    · refine hno (fun N => ?_) (fun N => ?_)
      · unfold xX11_where
        rw [x_isLine hl, if_neg hl8, e_obi2, if_pos (by decide)]
      · unfold xX12_where
        rw [q_isLine hl, if_neg hl8, e_obi2, if_pos (by decide)]
  · refine hno (fun N => ?_) (fun N => ?_)
    · unfold xX11_where
      rw [x_isLineN ha, e_obi2, if_pos (by decide)]
    · unfold xX12_where
      rw [q_isLineN ha, e_obi2, if_pos (by decide)]
abbrev a_wm (S : a_S) (l i : Nat) : Prop := S 586 (9 * i + 3) = l ∧ S 586 (9 * i + 5) = 1
theorem x_wor_l {N : j_M} {S : a_S} {l : Nat} (hi : INV S z0) (hl : l < 8) : ∀ (m n k : Nat), k + m = S 1 7 → xX1_ownerData_23 2 (n + m + 1) (nI l) (nI k) (XS N 2 S) = some (if fr (a_wm S l) m k = 0 then -1 else oI (S 586 (9 * (fr (a_wm S l) m k - 1) + 6)), XS N 2 S) ∧ ∀ N' : j_M, xX12_worth_57 (n + m + 1) (nI l) (nI k) (RS N' S) = some (if fr (a_wm S l) m k = 0 then -1 else oI (S 586 (9 * (fr (a_wm S l) m k - 1) + 6)), RS N' S)
  | 0, n, k, hk => by
    have hq := INV_q hi
    refine ⟨?_, fun N' => ?_⟩
    · rw [show n + 0 + 1 = n + 1 from rfl, xX1_ownerData_23.eq_2]
      simp (disch := omega) only [e_gd, e_ix, e_oli2, e_oml2, e_obi2, e_obv2, e_add, e_mul, e_sub, e_eq, e_lt, e_le, e_eq0, e_0eq, e_lt0, e_0lt, e_le0, e_0le, e_m1, e_m1', e_m1lt, Nat.add_assoc, Nat.not_lt_zero, Nat.le_zero_eq, Nat.reduceAdd, xr_4, xr_5, xr_6, xr_7, xr_13, xr_14, xr_3, xr_10, xr_11, xr_12, xr_15, xr_16, xr_17, xr_18, xr_19, xr_0_8, xr_0_9, xr_0_10, xr_0_11, xr_0_12, xr_0_13, xr_0_14, xr_8_11, xr_8_12, xr_8_13, xr_8_14, xr_h, xr_e, xr_u, xr_m, xr_2, xr_9, if_pos]
      rfl
    · rw [show n + 0 + 1 = n + 1 from rfl, xX12_worth_57.eq_2]
      simp (disch := omega) only [e_gd, e_ix, e_oli2, e_oml2, e_obi2, e_obv2, e_add, e_mul, e_sub, e_eq, e_lt, e_le, e_eq0, e_0eq, e_lt0, e_0lt, e_le0, e_0le, e_m1, e_m1', e_m1lt, Nat.add_assoc, Nat.not_lt_zero, Nat.le_zero_eq, sr_1, sr_14, sr_70, sr_126, sr_182, sr_238, sr_244, sr_292, sr_298, sr_304, sr_310, sr_316, sr_358, sr_400, sr_442, sr_484, sr_526, sr_532, sr_538, so_586, sr_586, sr_2746, sr_2752, sr_3112, sr_3118, sr_3124, sr_3130, sr_6730, sr_6736, sr_6766, sr_6814, sr_6961, sr_6962, sr_7362, sr_7363, sr_7364, su_6961, su_7362, su_7363, if_pos]
      rfl
  | m + 1, n, k, hk => by
    have hq := INV_q hi
    have g := g_f hi.1 k
    have v := hi.2.2.2.1 k (by omega)
    have f2 : fd S k 2 = S 586 (9 * k + 2) := rfl
    have f5 : fd S k 5 = S 586 (9 * k + 5) := rfl
    have v3 : S 586 (9 * k + 2) ≠ 3 → S 586 (9 * k + 5) = 0 := fun h => by
      have := v.2.2.2.1 h
      exact this.2.1
    have ih := x_wor_l (N := N) hi hl m n (k + 1) (by omega)
    have lf := (lf_ (M := XS N 2 S) hi (show k < S 1 7 by omega)).2.2.2
    have li5 := li_ (M := XS N 2 S) (w := 5) hi (show k < S 1 7 by omega) (by omega)
    have li6 := li_ (M := XS N 2 S) (w := 6) hi (show k < S 1 7 by omega) (by omega)
    rw [if_neg (by omega)] at li5
    rw [if_pos rfl] at li6
    refine ⟨?_, fun N' => ?_⟩
    · rw [show n + (m + 1) + 1 = (n + m + 1) + 1 by omega, xX1_ownerData_23.eq_2, fr_s]
      simp (disch := omega) only [e_gd, e_ix, e_oli2, e_oml2, e_obi2, e_obv2, e_add, e_mul, e_sub, e_eq, e_lt, e_le, e_eq0, e_0eq, e_lt0, e_0lt, e_le0, e_0le, e_m1, e_m1', e_m1lt, Nat.add_assoc, Nat.not_lt_zero, Nat.le_zero_eq, Nat.reduceAdd, xr_4, xr_5, xr_6, xr_7, xr_13, xr_14, xr_3, xr_10, xr_11, xr_12, xr_15, xr_16, xr_17, xr_18, xr_19, xr_0_8, xr_0_9, xr_0_10, xr_0_11, xr_0_12, xr_0_13, xr_0_14, xr_8_11, xr_8_12, xr_8_13, xr_8_14, xr_h, xr_e, xr_u, xr_m, xr_2, xr_9, lf, li5, li6]
      rw [show n + (m + 1) = n + m + 1 from rfl, ih.1, if_neg (by omega)]
      by_cases h1 : S 586 (9 * k + 3) = l
      · rw [if_pos h1]
        by_cases h2 : S 586 (9 * k + 5) = 1
        · have c1 : a_wm S l k := ⟨h1, h2⟩
          rw [if_pos h2, if_pos c1, if_neg (by omega), Nat.add_sub_cancel]
        · have c1 : ¬ a_wm S l k := fun e => h2 e.2
          rw [if_neg h2, if_neg c1]
      · have c1 : ¬ a_wm S l k := fun e => h1 e.1
        rw [if_neg h1, if_neg c1]
    · have i2 := ih.2 N'
      have r6 := r_of9 (N := N') (S := S) (i := k) (f := 6) (by omega) (by omega)
      rw [enc_o (by omega)] at r6
      rw [show n + (m + 1) + 1 = (n + m + 1) + 1 by omega, xX12_worth_57.eq_2, fr_s]
      simp (disch := omega) only [e_gd, e_ix, e_oli2, e_oml2, e_obi2, e_obv2, e_add, e_mul, e_sub, e_eq, e_lt, e_le, e_eq0, e_0eq, e_lt0, e_0lt, e_le0, e_0le, e_m1, e_m1', e_m1lt, Nat.add_assoc, Nat.not_lt_zero, Nat.le_zero_eq, sr_1, sr_14, sr_70, sr_126, sr_182, sr_238, sr_244, sr_292, sr_298, sr_304, sr_310, sr_316, sr_358, sr_400, sr_442, sr_484, sr_526, sr_532, sr_538, so_586, sr_586, sr_2746, sr_2752, sr_3112, sr_3118, sr_3124, sr_3130, sr_6730, sr_6736, sr_6766, sr_6814, sr_6961, sr_6962, sr_7362, sr_7363, sr_7364, su_6961, su_7362, su_7363, r_of, r6]
      rw [show n + (m + 1) = n + m + 1 from rfl, i2, if_neg (by omega)]
      by_cases h3 : S 586 (9 * k + 2) = 3
      · rw [if_pos h3]
        by_cases h1 : S 586 (9 * k + 3) = l
        · rw [if_pos h1]
          by_cases h2 : S 586 (9 * k + 5) = 1
          · have c1 : a_wm S l k := ⟨h1, h2⟩
            rw [if_pos h2, if_pos c1, if_neg (by omega), Nat.add_sub_cancel]
          · have c1 : ¬ a_wm S l k := fun e => h2 e.2
            rw [if_neg h2, if_neg c1]
        · have c1 : ¬ a_wm S l k := fun e => h1 e.1
          rw [if_neg h1, if_neg c1]
      · have c1 : ¬ a_wm S l k := fun e => by have := v3 h3; have := e.2; omega
        rw [if_neg h3, if_neg c1]
theorem r_wor {N : j_M} {S : a_S} {l : Nat} (h : RG S) (hl : l < 8) : ∀ (m n k : Nat), k + m = 7 → xX12_worth_11 (n + m + 1) (nI l) (nI k) (RS N S) = if fr (fun x => S 70 (8 * x + l) = 1) m k = 0 then xX12_worth_57 fu (nI l) (nI 0) (RS N S) else some (nI (S 182 (8 * (fr (fun x => S 70 (8 * x + l) = 1) m k - 1) + l)), RS N S)
  | 0, n, k, hk => by
    rw [show n + 0 + 1 = n + 1 from rfl, xX12_worth_11.eq_2]
    simp (disch := omega) only [e_gd, e_ix, e_oli2, e_oml2, e_obi2, e_obv2, e_add, e_mul, e_sub, e_eq, e_lt, e_le, e_eq0, e_0eq, e_lt0, e_0lt, e_le0, e_0le, e_m1, e_m1', e_m1lt, Nat.add_assoc, Nat.not_lt_zero, Nat.le_zero_eq, if_pos]
    rfl
  | m + 1, n, k, hk => by
    have g := g_hv h (8 * k + l)
    rw [show n + (m + 1) + 1 = (n + m + 1) + 1 by omega, xX12_worth_11.eq_2, fr_s, m_place, e_obi2, m_place, e_obi2]
    simp (disch := omega) only [e_gd, e_ix, e_oli2, e_oml2, e_obi2, e_obv2, e_add, e_mul, e_sub, e_eq, e_lt, e_le, e_eq0, e_0eq, e_lt0, e_0lt, e_le0, e_0le, e_m1, e_m1', e_m1lt, Nat.add_assoc, Nat.not_lt_zero, Nat.le_zero_eq, sr_1, sr_14, sr_70, sr_126, sr_182, sr_238, sr_244, sr_292, sr_298, sr_304, sr_310, sr_316, sr_358, sr_400, sr_442, sr_484, sr_526, sr_532, sr_538, so_586, sr_586, sr_2746, sr_2752, sr_3112, sr_3118, sr_3124, sr_3130, sr_6730, sr_6736, sr_6766, sr_6814, sr_6961, sr_6962, sr_7362, sr_7363, sr_7364, su_6961, su_7362, su_7363]
    rw [show n + (m + 1) = n + m + 1 from rfl, r_wor h hl m n (k + 1) (by omega), if_neg (by omega)]
    by_cases h1 : S 70 (8 * k + l) = 1
    · rw [if_pos h1, if_pos h1, if_neg (by omega), Nat.add_sub_cancel]
    · rw [if_neg h1, if_neg h1]
theorem op_worth {S : a_S} {b : Nat} (a : Int32) (h : OKS S b) : OPN (xX11_worth a) (xX12_worth a) S b := by
  have hq := INV_q h.1
  have hno : ∀ (_ : ∀ N : j_M, xX11_worth a (XS N 2 S) = some (-1, XS N 2 S)) (_ : ∀ N : j_M, xX12_worth a (RS N S) = some (-1, RS N S)), OPN (xX11_worth a) (xX12_worth a) S b := fun h1 h2 => OPN_q h (-1) (fun N _ => h1 N) h2
  rcases i_cases a with ⟨l, hl, rfl⟩ | ha
  · by_cases hl8 : l < 8
    · have fl := fr_le (P := fun x => S 70 (8 * x + l) = 1) 7 0
      have xw : ∀ N : j_M, xX1_ownerData_23 2 fu (nI l) (nI 0) (XS N 2 S) = some (if fr (a_wm S l) (S 1 7) 0 = 0 then -1 else oI (S 586 (9 * (fr (a_wm S l) (S 1 7) 0 - 1) + 6)), XS N 2 S) ∧ ∀ N' : j_M, xX12_worth_57 fu (nI l) (nI 0) (RS N' S) = some (if fr (a_wm S l) (S 1 7) 0 = 0 then -1 else oI (S 586 (9 * (fr (a_wm S l) (S 1 7) 0 - 1) + 6)), RS N' S) := by
        intro N
        have e := x_wor_l (N := N) h.1 hl8 (S 1 7) (1000000 - (S 1 7 + 1)) 0 (by omega)
        rw [show 1000000 - (S 1 7 + 1) + S 1 7 + 1 = fu by unfold fu; omega] at e
        exact e
      refine OPN_q h (if fr (fun x => S 70 (8 * x + l) = 1) 7 0 = 0 then (if fr (a_wm S l) (S 1 7) 0 = 0 then -1 else oI (S 586 (9 * (fr (a_wm S l) (S 1 7) 0 - 1) + 6))) else nI (S 182 (8 * (fr (fun x => S 70 (8 * x + l) = 1) 7 0 - 1) + l))) (fun N _ => ?_) (fun N => ?_)
      · unfold xX11_worth xX1_ownerData
        rw [x_isLine hl, if_pos hl8, e_obi2, if_neg (by decide), x_owner h.1.1 hl8, e_obi2, f_om1 (by omega), (xw N).1]
        by_cases h0 : fr (fun x => S 70 (8 * x + l) = 1) 7 0 = 0
        · rw [if_pos h0, if_pos h0, e_obi2]
        · obtain ⟨u, hu⟩ : ∃ u, fr (fun x => S 70 (8 * x + l) = 1) 7 0 = u + 1 := ⟨fr (fun x => S 70 (8 * x + l) = 1) 7 0 - 1, by omega⟩
          rw [if_neg h0, if_neg h0, hu, oI_s, x_held (by omega) hl8, e_obi2, hd_ h.1.1, e_obi2, e_obi2, Nat.add_sub_cancel]
      · have e := r_wor (N := N) h.1.1 hl8 7 (1000000 - 8) 0 (by omega)
        rw [show 1000000 - 8 + 7 + 1 = fu by unfold fu; omega] at e
        unfold xX12_worth
        rw [q_isLine hl, if_pos hl8, e_obi2, if_neg (by decide), e, (xw N).2]
        by_cases h0 : fr (fun x => S 70 (8 * x + l) = 1) 7 0 = 0
        · rw [if_pos h0, if_pos h0]
        · rw [if_neg h0, if_neg h0]
    · refine hno (fun N => ?_) (fun N => ?_)
      · unfold xX11_worth
        rw [x_isLine hl, if_neg hl8, e_obi2, if_pos (by decide)]
      · unfold xX12_worth
        rw [q_isLine hl, if_neg hl8, e_obi2, if_pos (by decide)]
  · refine hno (fun N => ?_) (fun N => ?_)
    · unfold xX11_worth
      rw [x_isLineN ha, e_obi2, if_pos (by decide)]
    · unfold xX12_worth
      rw [q_isLineN ha, e_obi2, if_pos (by decide)]
theorem x_all_l {N : j_M} {S : a_S} (hi : INV S z0) : ∀ (m n k s : Nat), k + m = S 1 7 → xX1_allTokensOnWay_4 2 (n + m + 1) (nI s) (nI k) (XS N 2 S) = some (nI (s + sm2 (fun i => S 586 (9 * i + 4)) m k), XS N 2 S) ∧ ∀ N' : j_M, xX12_onTheWay_4 (n + m + 1) (nI s) (nI k) (RS N' S) = some (nI (s + sm2 (fun i => S 586 (9 * i + 4)) m k), RS N' S)
  | 0, n, k, s, hk => by
    have hq := INV_q hi
    refine ⟨?_, fun N' => ?_⟩
    · rw [show n + 0 + 1 = n + 1 from rfl, xX1_allTokensOnWay_4.eq_2]
      simp (disch := omega) only [e_gd, e_ix, e_oli2, e_oml2, e_obi2, e_obv2, e_add, e_mul, e_sub, e_eq, e_lt, e_le, e_eq0, e_0eq, e_lt0, e_0lt, e_le0, e_0le, e_m1, e_m1', e_m1lt, Nat.add_assoc, Nat.not_lt_zero, Nat.le_zero_eq, Nat.reduceAdd, xr_4, xr_5, xr_6, xr_7, xr_13, xr_14, xr_3, xr_10, xr_11, xr_12, xr_15, xr_16, xr_17, xr_18, xr_19, xr_0_8, xr_0_9, xr_0_10, xr_0_11, xr_0_12, xr_0_13, xr_0_14, xr_8_11, xr_8_12, xr_8_13, xr_8_14, xr_h, xr_e, xr_u, xr_m, xr_2, xr_9, if_pos]
      rfl
    · rw [show n + 0 + 1 = n + 1 from rfl, xX12_onTheWay_4.eq_2]
      simp (disch := omega) only [e_gd, e_ix, e_oli2, e_oml2, e_obi2, e_obv2, e_add, e_mul, e_sub, e_eq, e_lt, e_le, e_eq0, e_0eq, e_lt0, e_0lt, e_le0, e_0le, e_m1, e_m1', e_m1lt, Nat.add_assoc, Nat.not_lt_zero, Nat.le_zero_eq, sr_1, sr_14, sr_70, sr_126, sr_182, sr_238, sr_244, sr_292, sr_298, sr_304, sr_310, sr_316, sr_358, sr_400, sr_442, sr_484, sr_526, sr_532, sr_538, so_586, sr_586, sr_2746, sr_2752, sr_3112, sr_3118, sr_3124, sr_3130, sr_6730, sr_6736, sr_6766, sr_6814, sr_6961, sr_6962, sr_7362, sr_7363, sr_7364, su_6961, su_7362, su_7363, if_pos]
      rfl
  | m + 1, n, k, s, hk => by
    have hq := INV_q hi
    have ih := fun s => x_all_l (N := N) hi m n (k + 1) s (by omega)
    have i1 := fun s => (ih s).1
    have li := li_ (M := XS N 2 S) (w := 4) hi (show k < S 1 7 by omega) (by omega)
    rw [if_neg (by omega)] at li
    refine ⟨?_, fun N' => ?_⟩
    · rw [show n + (m + 1) + 1 = (n + m + 1) + 1 by omega, xX1_allTokensOnWay_4.eq_2, sm2_s]
      simp (disch := omega) only [e_gd, e_ix, e_oli2, e_oml2, e_obi2, e_obv2, e_add, e_mul, e_sub, e_eq, e_lt, e_le, e_eq0, e_0eq, e_lt0, e_0lt, e_le0, e_0le, e_m1, e_m1', e_m1lt, Nat.add_assoc, Nat.not_lt_zero, Nat.le_zero_eq, Nat.reduceAdd, xr_4, xr_5, xr_6, xr_7, xr_13, xr_14, xr_3, xr_10, xr_11, xr_12, xr_15, xr_16, xr_17, xr_18, xr_19, xr_0_8, xr_0_9, xr_0_10, xr_0_11, xr_0_12, xr_0_13, xr_0_14, xr_8_11, xr_8_12, xr_8_13, xr_8_14, xr_h, xr_e, xr_u, xr_m, xr_2, xr_9, li]
      rw [show n + (m + 1) = n + m + 1 from rfl, i1, if_neg (by omega), Nat.add_assoc]
    · have i2 := fun s => (ih s).2 N'
      rw [show n + (m + 1) + 1 = (n + m + 1) + 1 by omega, xX12_onTheWay_4.eq_2, sm2_s]
      simp (disch := omega) only [e_gd, e_ix, e_oli2, e_oml2, e_obi2, e_obv2, e_add, e_mul, e_sub, e_eq, e_lt, e_le, e_eq0, e_0eq, e_lt0, e_0lt, e_le0, e_0le, e_m1, e_m1', e_m1lt, Nat.add_assoc, Nat.not_lt_zero, Nat.le_zero_eq, sr_1, sr_14, sr_70, sr_126, sr_182, sr_238, sr_244, sr_292, sr_298, sr_304, sr_310, sr_316, sr_358, sr_400, sr_442, sr_484, sr_526, sr_532, sr_538, so_586, sr_586, sr_2746, sr_2752, sr_3112, sr_3118, sr_3124, sr_3130, sr_6730, sr_6736, sr_6766, sr_6814, sr_6961, sr_6962, sr_7362, sr_7363, sr_7364, su_6961, su_7362, su_7363, r_of]
      rw [show n + (m + 1) = n + m + 1 from rfl, i2, if_neg (by omega), Nat.add_assoc]
theorem x_how_l {N : j_M} {S : a_S} (hi : INV S z0) : ∀ (m n k s : Nat), k + m = S 1 0 → xX1_howManyMiss_4 2 (n + m + 1) (nI s) (nI k) (XS N 2 S) = some (nI (s + cn (fun c => S 292 c ≠ 0) m k), XS N 2 S) ∧ ∀ N' : j_M, xX12_missing_4 (n + m + 1) (nI s) (nI k) (RS N' S) = some (nI (s + cn (fun c => S 292 c ≠ 0) m k), RS N' S)
  | 0, n, k, s, hk => by
    have hn := g_n hi.1
    refine ⟨?_, fun N' => ?_⟩
    · rw [show n + 0 + 1 = n + 1 from rfl, xX1_howManyMiss_4.eq_2]
      simp (disch := omega) only [e_gd, e_ix, e_oli2, e_oml2, e_obi2, e_obv2, e_add, e_mul, e_sub, e_eq, e_lt, e_le, e_eq0, e_0eq, e_lt0, e_0lt, e_le0, e_0le, e_m1, e_m1', e_m1lt, Nat.add_assoc, Nat.not_lt_zero, Nat.le_zero_eq, Nat.reduceAdd, xr_4, xr_5, xr_6, xr_7, xr_13, xr_14, xr_3, xr_10, xr_11, xr_12, xr_15, xr_16, xr_17, xr_18, xr_19, xr_0_8, xr_0_9, xr_0_10, xr_0_11, xr_0_12, xr_0_13, xr_0_14, xr_8_11, xr_8_12, xr_8_13, xr_8_14, xr_h, xr_e, xr_u, xr_m, xr_2, xr_9, if_pos]
      rfl
    · rw [show n + 0 + 1 = n + 1 from rfl, xX12_missing_4.eq_2]
      simp (disch := omega) only [e_gd, e_ix, e_oli2, e_oml2, e_obi2, e_obv2, e_add, e_mul, e_sub, e_eq, e_lt, e_le, e_eq0, e_0eq, e_lt0, e_0lt, e_le0, e_0le, e_m1, e_m1', e_m1lt, Nat.add_assoc, Nat.not_lt_zero, Nat.le_zero_eq, sr_1, sr_14, sr_70, sr_126, sr_182, sr_238, sr_244, sr_292, sr_298, sr_304, sr_310, sr_316, sr_358, sr_400, sr_442, sr_484, sr_526, sr_532, sr_538, so_586, sr_586, sr_2746, sr_2752, sr_3112, sr_3118, sr_3124, sr_3130, sr_6730, sr_6736, sr_6766, sr_6814, sr_6961, sr_6962, sr_7362, sr_7363, sr_7364, su_6961, su_7362, su_7363, if_pos]
      rfl
  | m + 1, n, k, s, hk => by
    have hn := g_n hi.1
    have g := g_mv hi.1 k
    have hm0 := msv_0 hi.2.2.2.2.2.2.2.1 (show k < 6 by omega)
    have ih := fun s => x_how_l (N := N) hi m n (k + 1) s (by omega)
    have i1 := fun s => (ih s).1
    refine ⟨?_, fun N' => ?_⟩
    · rw [show n + (m + 1) + 1 = (n + m + 1) + 1 by omega, xX1_howManyMiss_4.eq_2, cn_s]
      simp (disch := omega) only [e_gd, e_ix, e_oli2, e_oml2, e_obi2, e_obv2, e_add, e_mul, e_sub, e_eq, e_lt, e_le, e_eq0, e_0eq, e_lt0, e_0lt, e_le0, e_0le, e_m1, e_m1', e_m1lt, Nat.add_assoc, Nat.not_lt_zero, Nat.le_zero_eq, Nat.reduceAdd, xr_4, xr_5, xr_6, xr_7, xr_13, xr_14, xr_3, xr_10, xr_11, xr_12, xr_15, xr_16, xr_17, xr_18, xr_19, xr_0_8, xr_0_9, xr_0_10, xr_0_11, xr_0_12, xr_0_13, xr_0_14, xr_8_11, xr_8_12, xr_8_13, xr_8_14, xr_h, xr_e, xr_u, xr_m, xr_2, xr_9, x_missOf (show k < 6 by omega)]
      rw [show n + (m + 1) = n + m + 1 from rfl, i1, i1, if_neg (by omega), f_eq0 (msv_lt hi.1)]
      by_cases h1 : S 292 k = 0
      · have c1 : ¬ S 292 k ≠ 0 := fun e => e h1
        rw [if_pos (hm0.2 h1), if_neg c1, Nat.zero_add]
      · have c1 : S 292 k ≠ 0 := h1
        rw [if_neg (fun e => h1 (hm0.1 e)), if_pos c1, Nat.add_assoc]
    · have i2 := fun s => (ih s).2 N'
      rw [show n + (m + 1) + 1 = (n + m + 1) + 1 by omega, xX12_missing_4.eq_2, cn_s]
      unfold xX12_missing_34
      simp (disch := omega) only [e_gd, e_ix, e_oli2, e_oml2, e_obi2, e_obv2, e_add, e_mul, e_sub, e_eq, e_lt, e_le, e_eq0, e_0eq, e_lt0, e_0lt, e_le0, e_0le, e_m1, e_m1', e_m1lt, Nat.add_assoc, Nat.not_lt_zero, Nat.le_zero_eq, sr_1, sr_14, sr_70, sr_126, sr_182, sr_238, sr_244, sr_292, sr_298, sr_304, sr_310, sr_316, sr_358, sr_400, sr_442, sr_484, sr_526, sr_532, sr_538, so_586, sr_586, sr_2746, sr_2752, sr_3112, sr_3118, sr_3124, sr_3130, sr_6730, sr_6736, sr_6766, sr_6814, sr_6961, sr_6962, sr_7362, sr_7363, sr_7364, su_6961, su_7362, su_7363, oI_m1]
      rw [show n + (m + 1) = n + m + 1 from rfl, i2, i2, if_neg (by omega)]
      by_cases h1 : S 292 k = 0
      · have c1 : ¬ S 292 k ≠ 0 := fun e => e h1
        rw [if_pos h1, if_neg c1, Nat.zero_add, Nat.add_zero]
      · have c1 : S 292 k ≠ 0 := h1
        rw [if_neg h1, if_pos c1, Nat.add_assoc]
theorem op_look {S : a_S} {b : Nat} (a : Int32) (h : OKS S b) : OPN (xX11_look a) (xX12_look a) S b := by
  have hn := g_n h.1.1
  have hq := INV_q h.1
  have su := h.1.2.2.2.2.2.2.2.2.2.2
  rcases i_cases a with ⟨k, hk, rfl⟩ | ha
  · have xa : ∀ N : j_M, xX1_allTokensOnWay 2 (XS N 2 S) = some (nI (0 + sm2 (fun i => S 586 (9 * i + 4)) (S 1 7) 0), XS N 2 S) ∧ ∀ N' : j_M, xX12_onTheWay (RS N' S) = some (nI (0 + sm2 (fun i => S 586 (9 * i + 4)) (S 1 7) 0), RS N' S) := by
      intro N
      have e := x_all_l (N := N) h.1 (S 1 7) (1000000 - (S 1 7 + 1)) 0 0 (by omega)
      rw [show 1000000 - (S 1 7 + 1) + S 1 7 + 1 = fu by unfold fu; omega] at e
      exact e
    have xh : ∀ N : j_M, xX1_howManyMiss 2 (XS N 2 S) = some (nI (0 + cn (fun c => S 292 c ≠ 0) (S 1 0) 0), XS N 2 S) ∧ ∀ N' : j_M, xX12_missing (RS N' S) = some (nI (0 + cn (fun c => S 292 c ≠ 0) (S 1 0) 0), RS N' S) := by
      intro N
      have e := x_how_l (N := N) h.1 (S 1 0) (1000000 - (S 1 0 + 1)) 0 0 (by omega)
      rw [show 1000000 - (S 1 0 + 1) + S 1 0 + 1 = fu by unfold fu; omega] at e
      exact e
    have s8 : ∀ N : j_M, xX5_sum 6 17 (XS N 2 S) = some (nI (S 1 9), XS N 2 S) := fun N => by
      have e := x_sum (N := N) (t := 2) (S := S) 15 (by omega)
      rw [su.1]
      exact e
    have s9 : ∀ N : j_M, xX5_sum 6 18 (XS N 2 S) = some (nI (S 1 10), XS N 2 S) := fun N => y_ended h.1
    have s10 : ∀ N : j_M, xX5_sum 6 21 (XS N 2 S) = some (nI (S 1 11), XS N 2 S) := fun N => by
      have e := x_sum (N := N) (t := 2) (S := S) 19 (by omega)
      rw [su.2.2]
      exact e
    have ck : k = 0 ∨ k = 1 ∨ k = 2 ∨ k = 3 ∨ k = 4 ∨ k = 5 ∨ k = 6 ∨ k = 7 ∨ k = 8 ∨ k = 9 ∨ k = 10 ∨ k = 11 ∨ k = 12 ∨ k = 13 ∨ k = 14 ∨ k = 15 ∨ k = 16 ∨ k = 17 ∨ k = 18 ∨ 19 ≤ k := by omega
    rcases ck with rfl | rfl | rfl | rfl | rfl | rfl | rfl | rfl | rfl | rfl | rfl | rfl | rfl | rfl | rfl | rfl | rfl | rfl | rfl | hk7
    · refine OPN_q h (nI (S 1 0)) (fun N hs => ?_) (fun N => ?_)
      · have e5 : N 22 5 = nI (S 7362 0) := hs.2.2.1
        have e6 : N 22 6 = nI (S 7363 0) := hs.2.2.2.1
        have e7 : N 22 7 = nI (S 1 6) := hs.2.2.2.2.1
        unfold xX11_look xX11_look_32 xX1_figure xX5_figure
        simp (disch := omega) only [e_gd, e_ix, e_oli2, e_oml2, e_obi2, e_obv2, e_add, e_mul, e_sub, e_eq, e_lt, e_le, e_eq0, e_0eq, e_lt0, e_0lt, e_le0, e_0le, e_m1, e_m1', e_m1lt, Nat.add_assoc, Nat.not_lt_zero, Nat.le_zero_eq, Nat.reduceAdd, y_4, y_5, y_6, y_7, y_8, y_11, y_12, y_13, y_14, y_15, y_16, y_17, y_18, y_19, y_20, y_21, y_10_11, y_10_12, y_10_13, y_10_14, xr_0_8, xr_0_9, xr_0_10, xr_0_11, xr_0_12, xr_0_13, xr_0_14, xs_o, e5, e6, e7, e_osw, e_osw0, Nat.reduceEqDiff, Nat.reduceLeDiff, Nat.reduceLT, if_true, if_false, (xa N).1, (xh N).1, s8 N, s9 N, s10 N]
      · unfold xX12_look
        simp (disch := omega) only [e_gd, e_ix, e_oli2, e_oml2, e_obi2, e_obv2, e_add, e_mul, e_sub, e_eq, e_lt, e_le, e_eq0, e_0eq, e_lt0, e_0lt, e_le0, e_0le, e_m1, e_m1', e_m1lt, Nat.add_assoc, Nat.not_lt_zero, Nat.le_zero_eq, sr_1, sr_14, sr_70, sr_126, sr_182, sr_238, sr_244, sr_292, sr_298, sr_304, sr_310, sr_316, sr_358, sr_400, sr_442, sr_484, sr_526, sr_532, sr_538, so_586, sr_586, sr_2746, sr_2752, sr_3112, sr_3118, sr_3124, sr_3130, sr_6730, sr_6736, sr_6766, sr_6814, sr_6961, sr_6962, sr_7362, sr_7363, sr_7364, su_6961, su_7362, su_7363, e_osw, e_osw0, Nat.reduceEqDiff, if_true, if_false, (xa N).2 N, (xh N).2 N]
    · refine OPN_q h (nI (S 1 1)) (fun N hs => ?_) (fun N => ?_)
      · have e5 : N 22 5 = nI (S 7362 0) := hs.2.2.1
        have e6 : N 22 6 = nI (S 7363 0) := hs.2.2.2.1
        have e7 : N 22 7 = nI (S 1 6) := hs.2.2.2.2.1
        unfold xX11_look xX11_look_32 xX1_figure xX5_figure
        simp (disch := omega) only [e_gd, e_ix, e_oli2, e_oml2, e_obi2, e_obv2, e_add, e_mul, e_sub, e_eq, e_lt, e_le, e_eq0, e_0eq, e_lt0, e_0lt, e_le0, e_0le, e_m1, e_m1', e_m1lt, Nat.add_assoc, Nat.not_lt_zero, Nat.le_zero_eq, Nat.reduceAdd, y_4, y_5, y_6, y_7, y_8, y_11, y_12, y_13, y_14, y_15, y_16, y_17, y_18, y_19, y_20, y_21, y_10_11, y_10_12, y_10_13, y_10_14, xr_0_8, xr_0_9, xr_0_10, xr_0_11, xr_0_12, xr_0_13, xr_0_14, xs_o, e5, e6, e7, e_osw, e_osw0, Nat.reduceEqDiff, Nat.reduceLeDiff, Nat.reduceLT, if_true, if_false, (xa N).1, (xh N).1, s8 N, s9 N, s10 N]
      · unfold xX12_look
        simp (disch := omega) only [e_gd, e_ix, e_oli2, e_oml2, e_obi2, e_obv2, e_add, e_mul, e_sub, e_eq, e_lt, e_le, e_eq0, e_0eq, e_lt0, e_0lt, e_le0, e_0le, e_m1, e_m1', e_m1lt, Nat.add_assoc, Nat.not_lt_zero, Nat.le_zero_eq, sr_1, sr_14, sr_70, sr_126, sr_182, sr_238, sr_244, sr_292, sr_298, sr_304, sr_310, sr_316, sr_358, sr_400, sr_442, sr_484, sr_526, sr_532, sr_538, so_586, sr_586, sr_2746, sr_2752, sr_3112, sr_3118, sr_3124, sr_3130, sr_6730, sr_6736, sr_6766, sr_6814, sr_6961, sr_6962, sr_7362, sr_7363, sr_7364, su_6961, su_7362, su_7363, e_osw, e_osw0, Nat.reduceEqDiff, if_true, if_false, (xa N).2 N, (xh N).2 N]
    · refine OPN_q h (nI (S 1 2)) (fun N hs => ?_) (fun N => ?_)
      · have e5 : N 22 5 = nI (S 7362 0) := hs.2.2.1
        have e6 : N 22 6 = nI (S 7363 0) := hs.2.2.2.1
        have e7 : N 22 7 = nI (S 1 6) := hs.2.2.2.2.1
        unfold xX11_look xX11_look_32 xX1_figure xX5_figure
        simp (disch := omega) only [e_gd, e_ix, e_oli2, e_oml2, e_obi2, e_obv2, e_add, e_mul, e_sub, e_eq, e_lt, e_le, e_eq0, e_0eq, e_lt0, e_0lt, e_le0, e_0le, e_m1, e_m1', e_m1lt, Nat.add_assoc, Nat.not_lt_zero, Nat.le_zero_eq, Nat.reduceAdd, y_4, y_5, y_6, y_7, y_8, y_11, y_12, y_13, y_14, y_15, y_16, y_17, y_18, y_19, y_20, y_21, y_10_11, y_10_12, y_10_13, y_10_14, xr_0_8, xr_0_9, xr_0_10, xr_0_11, xr_0_12, xr_0_13, xr_0_14, xs_o, e5, e6, e7, e_osw, e_osw0, Nat.reduceEqDiff, Nat.reduceLeDiff, Nat.reduceLT, if_true, if_false, (xa N).1, (xh N).1, s8 N, s9 N, s10 N]
      · unfold xX12_look
        simp (disch := omega) only [e_gd, e_ix, e_oli2, e_oml2, e_obi2, e_obv2, e_add, e_mul, e_sub, e_eq, e_lt, e_le, e_eq0, e_0eq, e_lt0, e_0lt, e_le0, e_0le, e_m1, e_m1', e_m1lt, Nat.add_assoc, Nat.not_lt_zero, Nat.le_zero_eq, sr_1, sr_14, sr_70, sr_126, sr_182, sr_238, sr_244, sr_292, sr_298, sr_304, sr_310, sr_316, sr_358, sr_400, sr_442, sr_484, sr_526, sr_532, sr_538, so_586, sr_586, sr_2746, sr_2752, sr_3112, sr_3118, sr_3124, sr_3130, sr_6730, sr_6736, sr_6766, sr_6814, sr_6961, sr_6962, sr_7362, sr_7363, sr_7364, su_6961, su_7362, su_7363, e_osw, e_osw0, Nat.reduceEqDiff, if_true, if_false, (xa N).2 N, (xh N).2 N]
    · refine OPN_q h (nI (S 1 3)) (fun N hs => ?_) (fun N => ?_)
      · have e5 : N 22 5 = nI (S 7362 0) := hs.2.2.1
        have e6 : N 22 6 = nI (S 7363 0) := hs.2.2.2.1
        have e7 : N 22 7 = nI (S 1 6) := hs.2.2.2.2.1
        unfold xX11_look xX11_look_32 xX1_figure xX5_figure
        simp (disch := omega) only [e_gd, e_ix, e_oli2, e_oml2, e_obi2, e_obv2, e_add, e_mul, e_sub, e_eq, e_lt, e_le, e_eq0, e_0eq, e_lt0, e_0lt, e_le0, e_0le, e_m1, e_m1', e_m1lt, Nat.add_assoc, Nat.not_lt_zero, Nat.le_zero_eq, Nat.reduceAdd, y_4, y_5, y_6, y_7, y_8, y_11, y_12, y_13, y_14, y_15, y_16, y_17, y_18, y_19, y_20, y_21, y_10_11, y_10_12, y_10_13, y_10_14, xr_0_8, xr_0_9, xr_0_10, xr_0_11, xr_0_12, xr_0_13, xr_0_14, xs_o, e5, e6, e7, e_osw, e_osw0, Nat.reduceEqDiff, Nat.reduceLeDiff, Nat.reduceLT, if_true, if_false, (xa N).1, (xh N).1, s8 N, s9 N, s10 N]
      · unfold xX12_look
        simp (disch := omega) only [e_gd, e_ix, e_oli2, e_oml2, e_obi2, e_obv2, e_add, e_mul, e_sub, e_eq, e_lt, e_le, e_eq0, e_0eq, e_lt0, e_0lt, e_le0, e_0le, e_m1, e_m1', e_m1lt, Nat.add_assoc, Nat.not_lt_zero, Nat.le_zero_eq, sr_1, sr_14, sr_70, sr_126, sr_182, sr_238, sr_244, sr_292, sr_298, sr_304, sr_310, sr_316, sr_358, sr_400, sr_442, sr_484, sr_526, sr_532, sr_538, so_586, sr_586, sr_2746, sr_2752, sr_3112, sr_3118, sr_3124, sr_3130, sr_6730, sr_6736, sr_6766, sr_6814, sr_6961, sr_6962, sr_7362, sr_7363, sr_7364, su_6961, su_7362, su_7363, e_osw, e_osw0, Nat.reduceEqDiff, if_true, if_false, (xa N).2 N, (xh N).2 N]
    · refine OPN_q h (nI (S 1 4)) (fun N hs => ?_) (fun N => ?_)
      · have e5 : N 22 5 = nI (S 7362 0) := hs.2.2.1
        have e6 : N 22 6 = nI (S 7363 0) := hs.2.2.2.1
        have e7 : N 22 7 = nI (S 1 6) := hs.2.2.2.2.1
        unfold xX11_look xX11_look_32 xX1_figure xX5_figure
        simp (disch := omega) only [e_gd, e_ix, e_oli2, e_oml2, e_obi2, e_obv2, e_add, e_mul, e_sub, e_eq, e_lt, e_le, e_eq0, e_0eq, e_lt0, e_0lt, e_le0, e_0le, e_m1, e_m1', e_m1lt, Nat.add_assoc, Nat.not_lt_zero, Nat.le_zero_eq, Nat.reduceAdd, y_4, y_5, y_6, y_7, y_8, y_11, y_12, y_13, y_14, y_15, y_16, y_17, y_18, y_19, y_20, y_21, y_10_11, y_10_12, y_10_13, y_10_14, xr_0_8, xr_0_9, xr_0_10, xr_0_11, xr_0_12, xr_0_13, xr_0_14, xs_o, e5, e6, e7, e_osw, e_osw0, Nat.reduceEqDiff, Nat.reduceLeDiff, Nat.reduceLT, if_true, if_false, (xa N).1, (xh N).1, s8 N, s9 N, s10 N]
      · unfold xX12_look
        simp (disch := omega) only [e_gd, e_ix, e_oli2, e_oml2, e_obi2, e_obv2, e_add, e_mul, e_sub, e_eq, e_lt, e_le, e_eq0, e_0eq, e_lt0, e_0lt, e_le0, e_0le, e_m1, e_m1', e_m1lt, Nat.add_assoc, Nat.not_lt_zero, Nat.le_zero_eq, sr_1, sr_14, sr_70, sr_126, sr_182, sr_238, sr_244, sr_292, sr_298, sr_304, sr_310, sr_316, sr_358, sr_400, sr_442, sr_484, sr_526, sr_532, sr_538, so_586, sr_586, sr_2746, sr_2752, sr_3112, sr_3118, sr_3124, sr_3130, sr_6730, sr_6736, sr_6766, sr_6814, sr_6961, sr_6962, sr_7362, sr_7363, sr_7364, su_6961, su_7362, su_7363, e_osw, e_osw0, Nat.reduceEqDiff, if_true, if_false, (xa N).2 N, (xh N).2 N]
    · refine OPN_q h (nI (S 1 5)) (fun N hs => ?_) (fun N => ?_)
      · have e5 : N 22 5 = nI (S 7362 0) := hs.2.2.1
        have e6 : N 22 6 = nI (S 7363 0) := hs.2.2.2.1
        have e7 : N 22 7 = nI (S 1 6) := hs.2.2.2.2.1
        unfold xX11_look xX11_look_32 xX1_figure xX5_figure
        simp (disch := omega) only [e_gd, e_ix, e_oli2, e_oml2, e_obi2, e_obv2, e_add, e_mul, e_sub, e_eq, e_lt, e_le, e_eq0, e_0eq, e_lt0, e_0lt, e_le0, e_0le, e_m1, e_m1', e_m1lt, Nat.add_assoc, Nat.not_lt_zero, Nat.le_zero_eq, Nat.reduceAdd, y_4, y_5, y_6, y_7, y_8, y_11, y_12, y_13, y_14, y_15, y_16, y_17, y_18, y_19, y_20, y_21, y_10_11, y_10_12, y_10_13, y_10_14, xr_0_8, xr_0_9, xr_0_10, xr_0_11, xr_0_12, xr_0_13, xr_0_14, xs_o, e5, e6, e7, e_osw, e_osw0, Nat.reduceEqDiff, Nat.reduceLeDiff, Nat.reduceLT, if_true, if_false, (xa N).1, (xh N).1, s8 N, s9 N, s10 N]
      · unfold xX12_look
        simp (disch := omega) only [e_gd, e_ix, e_oli2, e_oml2, e_obi2, e_obv2, e_add, e_mul, e_sub, e_eq, e_lt, e_le, e_eq0, e_0eq, e_lt0, e_0lt, e_le0, e_0le, e_m1, e_m1', e_m1lt, Nat.add_assoc, Nat.not_lt_zero, Nat.le_zero_eq, sr_1, sr_14, sr_70, sr_126, sr_182, sr_238, sr_244, sr_292, sr_298, sr_304, sr_310, sr_316, sr_358, sr_400, sr_442, sr_484, sr_526, sr_532, sr_538, so_586, sr_586, sr_2746, sr_2752, sr_3112, sr_3118, sr_3124, sr_3130, sr_6730, sr_6736, sr_6766, sr_6814, sr_6961, sr_6962, sr_7362, sr_7363, sr_7364, su_6961, su_7362, su_7363, e_osw, e_osw0, Nat.reduceEqDiff, if_true, if_false, (xa N).2 N, (xh N).2 N]
    · refine OPN_q h (nI (S 1 7)) (fun N hs => ?_) (fun N => ?_)
      · have e5 : N 22 5 = nI (S 7362 0) := hs.2.2.1
        have e6 : N 22 6 = nI (S 7363 0) := hs.2.2.2.1
        have e7 : N 22 7 = nI (S 1 6) := hs.2.2.2.2.1
        unfold xX11_look xX11_look_32 xX1_figure xX5_figure
        simp (disch := omega) only [e_gd, e_ix, e_oli2, e_oml2, e_obi2, e_obv2, e_add, e_mul, e_sub, e_eq, e_lt, e_le, e_eq0, e_0eq, e_lt0, e_0lt, e_le0, e_0le, e_m1, e_m1', e_m1lt, Nat.add_assoc, Nat.not_lt_zero, Nat.le_zero_eq, Nat.reduceAdd, y_4, y_5, y_6, y_7, y_8, y_11, y_12, y_13, y_14, y_15, y_16, y_17, y_18, y_19, y_20, y_21, y_10_11, y_10_12, y_10_13, y_10_14, xr_0_8, xr_0_9, xr_0_10, xr_0_11, xr_0_12, xr_0_13, xr_0_14, xs_o, e5, e6, e7, e_osw, e_osw0, Nat.reduceEqDiff, Nat.reduceLeDiff, Nat.reduceLT, if_true, if_false, (xa N).1, (xh N).1, s8 N, s9 N, s10 N]
      · unfold xX12_look
        simp (disch := omega) only [e_gd, e_ix, e_oli2, e_oml2, e_obi2, e_obv2, e_add, e_mul, e_sub, e_eq, e_lt, e_le, e_eq0, e_0eq, e_lt0, e_0lt, e_le0, e_0le, e_m1, e_m1', e_m1lt, Nat.add_assoc, Nat.not_lt_zero, Nat.le_zero_eq, sr_1, sr_14, sr_70, sr_126, sr_182, sr_238, sr_244, sr_292, sr_298, sr_304, sr_310, sr_316, sr_358, sr_400, sr_442, sr_484, sr_526, sr_532, sr_538, so_586, sr_586, sr_2746, sr_2752, sr_3112, sr_3118, sr_3124, sr_3130, sr_6730, sr_6736, sr_6766, sr_6814, sr_6961, sr_6962, sr_7362, sr_7363, sr_7364, su_6961, su_7362, su_7363, e_osw, e_osw0, Nat.reduceEqDiff, if_true, if_false, (xa N).2 N, (xh N).2 N]
    · refine OPN_q h (nI (S 1 8)) (fun N hs => ?_) (fun N => ?_)
      · have e5 : N 22 5 = nI (S 7362 0) := hs.2.2.1
        have e6 : N 22 6 = nI (S 7363 0) := hs.2.2.2.1
        have e7 : N 22 7 = nI (S 1 6) := hs.2.2.2.2.1
        unfold xX11_look xX11_look_32 xX1_figure xX5_figure
        simp (disch := omega) only [e_gd, e_ix, e_oli2, e_oml2, e_obi2, e_obv2, e_add, e_mul, e_sub, e_eq, e_lt, e_le, e_eq0, e_0eq, e_lt0, e_0lt, e_le0, e_0le, e_m1, e_m1', e_m1lt, Nat.add_assoc, Nat.not_lt_zero, Nat.le_zero_eq, Nat.reduceAdd, y_4, y_5, y_6, y_7, y_8, y_11, y_12, y_13, y_14, y_15, y_16, y_17, y_18, y_19, y_20, y_21, y_10_11, y_10_12, y_10_13, y_10_14, xr_0_8, xr_0_9, xr_0_10, xr_0_11, xr_0_12, xr_0_13, xr_0_14, xs_o, e5, e6, e7, e_osw, e_osw0, Nat.reduceEqDiff, Nat.reduceLeDiff, Nat.reduceLT, if_true, if_false, (xa N).1, (xh N).1, s8 N, s9 N, s10 N]
      · unfold xX12_look
        simp (disch := omega) only [e_gd, e_ix, e_oli2, e_oml2, e_obi2, e_obv2, e_add, e_mul, e_sub, e_eq, e_lt, e_le, e_eq0, e_0eq, e_lt0, e_0lt, e_le0, e_0le, e_m1, e_m1', e_m1lt, Nat.add_assoc, Nat.not_lt_zero, Nat.le_zero_eq, sr_1, sr_14, sr_70, sr_126, sr_182, sr_238, sr_244, sr_292, sr_298, sr_304, sr_310, sr_316, sr_358, sr_400, sr_442, sr_484, sr_526, sr_532, sr_538, so_586, sr_586, sr_2746, sr_2752, sr_3112, sr_3118, sr_3124, sr_3130, sr_6730, sr_6736, sr_6766, sr_6814, sr_6961, sr_6962, sr_7362, sr_7363, sr_7364, su_6961, su_7362, su_7363, e_osw, e_osw0, Nat.reduceEqDiff, if_true, if_false, (xa N).2 N, (xh N).2 N]
    · refine OPN_q h (nI (S 1 9)) (fun N hs => ?_) (fun N => ?_)
      · have e5 : N 22 5 = nI (S 7362 0) := hs.2.2.1
        have e6 : N 22 6 = nI (S 7363 0) := hs.2.2.2.1
        have e7 : N 22 7 = nI (S 1 6) := hs.2.2.2.2.1
        unfold xX11_look xX11_look_32 xX1_figure xX5_figure
        simp (disch := omega) only [e_gd, e_ix, e_oli2, e_oml2, e_obi2, e_obv2, e_add, e_mul, e_sub, e_eq, e_lt, e_le, e_eq0, e_0eq, e_lt0, e_0lt, e_le0, e_0le, e_m1, e_m1', e_m1lt, Nat.add_assoc, Nat.not_lt_zero, Nat.le_zero_eq, Nat.reduceAdd, y_4, y_5, y_6, y_7, y_8, y_11, y_12, y_13, y_14, y_15, y_16, y_17, y_18, y_19, y_20, y_21, y_10_11, y_10_12, y_10_13, y_10_14, xr_0_8, xr_0_9, xr_0_10, xr_0_11, xr_0_12, xr_0_13, xr_0_14, xs_o, e5, e6, e7, e_osw, e_osw0, Nat.reduceEqDiff, Nat.reduceLeDiff, Nat.reduceLT, if_true, if_false, (xa N).1, (xh N).1, s8 N, s9 N, s10 N]
      · unfold xX12_look
        simp (disch := omega) only [e_gd, e_ix, e_oli2, e_oml2, e_obi2, e_obv2, e_add, e_mul, e_sub, e_eq, e_lt, e_le, e_eq0, e_0eq, e_lt0, e_0lt, e_le0, e_0le, e_m1, e_m1', e_m1lt, Nat.add_assoc, Nat.not_lt_zero, Nat.le_zero_eq, sr_1, sr_14, sr_70, sr_126, sr_182, sr_238, sr_244, sr_292, sr_298, sr_304, sr_310, sr_316, sr_358, sr_400, sr_442, sr_484, sr_526, sr_532, sr_538, so_586, sr_586, sr_2746, sr_2752, sr_3112, sr_3118, sr_3124, sr_3130, sr_6730, sr_6736, sr_6766, sr_6814, sr_6961, sr_6962, sr_7362, sr_7363, sr_7364, su_6961, su_7362, su_7363, e_osw, e_osw0, Nat.reduceEqDiff, if_true, if_false, (xa N).2 N, (xh N).2 N]
    · refine OPN_q h (nI (S 1 10)) (fun N hs => ?_) (fun N => ?_)
      · have e5 : N 22 5 = nI (S 7362 0) := hs.2.2.1
        have e6 : N 22 6 = nI (S 7363 0) := hs.2.2.2.1
        have e7 : N 22 7 = nI (S 1 6) := hs.2.2.2.2.1
        unfold xX11_look xX11_look_32 xX1_figure xX5_figure
        simp (disch := omega) only [e_gd, e_ix, e_oli2, e_oml2, e_obi2, e_obv2, e_add, e_mul, e_sub, e_eq, e_lt, e_le, e_eq0, e_0eq, e_lt0, e_0lt, e_le0, e_0le, e_m1, e_m1', e_m1lt, Nat.add_assoc, Nat.not_lt_zero, Nat.le_zero_eq, Nat.reduceAdd, y_4, y_5, y_6, y_7, y_8, y_11, y_12, y_13, y_14, y_15, y_16, y_17, y_18, y_19, y_20, y_21, y_10_11, y_10_12, y_10_13, y_10_14, xr_0_8, xr_0_9, xr_0_10, xr_0_11, xr_0_12, xr_0_13, xr_0_14, xs_o, e5, e6, e7, e_osw, e_osw0, Nat.reduceEqDiff, Nat.reduceLeDiff, Nat.reduceLT, if_true, if_false, (xa N).1, (xh N).1, s8 N, s9 N, s10 N]
      · unfold xX12_look
        simp (disch := omega) only [e_gd, e_ix, e_oli2, e_oml2, e_obi2, e_obv2, e_add, e_mul, e_sub, e_eq, e_lt, e_le, e_eq0, e_0eq, e_lt0, e_0lt, e_le0, e_0le, e_m1, e_m1', e_m1lt, Nat.add_assoc, Nat.not_lt_zero, Nat.le_zero_eq, sr_1, sr_14, sr_70, sr_126, sr_182, sr_238, sr_244, sr_292, sr_298, sr_304, sr_310, sr_316, sr_358, sr_400, sr_442, sr_484, sr_526, sr_532, sr_538, so_586, sr_586, sr_2746, sr_2752, sr_3112, sr_3118, sr_3124, sr_3130, sr_6730, sr_6736, sr_6766, sr_6814, sr_6961, sr_6962, sr_7362, sr_7363, sr_7364, su_6961, su_7362, su_7363, e_osw, e_osw0, Nat.reduceEqDiff, if_true, if_false, (xa N).2 N, (xh N).2 N]
    · refine OPN_q h (nI (S 1 11)) (fun N hs => ?_) (fun N => ?_)
      · have e5 : N 22 5 = nI (S 7362 0) := hs.2.2.1
        have e6 : N 22 6 = nI (S 7363 0) := hs.2.2.2.1
        have e7 : N 22 7 = nI (S 1 6) := hs.2.2.2.2.1
        unfold xX11_look xX11_look_32 xX1_figure xX5_figure
        simp (disch := omega) only [e_gd, e_ix, e_oli2, e_oml2, e_obi2, e_obv2, e_add, e_mul, e_sub, e_eq, e_lt, e_le, e_eq0, e_0eq, e_lt0, e_0lt, e_le0, e_0le, e_m1, e_m1', e_m1lt, Nat.add_assoc, Nat.not_lt_zero, Nat.le_zero_eq, Nat.reduceAdd, y_4, y_5, y_6, y_7, y_8, y_11, y_12, y_13, y_14, y_15, y_16, y_17, y_18, y_19, y_20, y_21, y_10_11, y_10_12, y_10_13, y_10_14, xr_0_8, xr_0_9, xr_0_10, xr_0_11, xr_0_12, xr_0_13, xr_0_14, xs_o, e5, e6, e7, e_osw, e_osw0, Nat.reduceEqDiff, Nat.reduceLeDiff, Nat.reduceLT, if_true, if_false, (xa N).1, (xh N).1, s8 N, s9 N, s10 N]
      · unfold xX12_look
        simp (disch := omega) only [e_gd, e_ix, e_oli2, e_oml2, e_obi2, e_obv2, e_add, e_mul, e_sub, e_eq, e_lt, e_le, e_eq0, e_0eq, e_lt0, e_0lt, e_le0, e_0le, e_m1, e_m1', e_m1lt, Nat.add_assoc, Nat.not_lt_zero, Nat.le_zero_eq, sr_1, sr_14, sr_70, sr_126, sr_182, sr_238, sr_244, sr_292, sr_298, sr_304, sr_310, sr_316, sr_358, sr_400, sr_442, sr_484, sr_526, sr_532, sr_538, so_586, sr_586, sr_2746, sr_2752, sr_3112, sr_3118, sr_3124, sr_3130, sr_6730, sr_6736, sr_6766, sr_6814, sr_6961, sr_6962, sr_7362, sr_7363, sr_7364, su_6961, su_7362, su_7363, e_osw, e_osw0, Nat.reduceEqDiff, if_true, if_false, (xa N).2 N, (xh N).2 N]
    · refine OPN_q h (nI (S 1 12)) (fun N hs => ?_) (fun N => ?_)
      · have e5 : N 22 5 = nI (S 7362 0) := hs.2.2.1
        have e6 : N 22 6 = nI (S 7363 0) := hs.2.2.2.1
        have e7 : N 22 7 = nI (S 1 6) := hs.2.2.2.2.1
        unfold xX11_look xX11_look_32 xX1_figure xX5_figure
        simp (disch := omega) only [e_gd, e_ix, e_oli2, e_oml2, e_obi2, e_obv2, e_add, e_mul, e_sub, e_eq, e_lt, e_le, e_eq0, e_0eq, e_lt0, e_0lt, e_le0, e_0le, e_m1, e_m1', e_m1lt, Nat.add_assoc, Nat.not_lt_zero, Nat.le_zero_eq, Nat.reduceAdd, y_4, y_5, y_6, y_7, y_8, y_11, y_12, y_13, y_14, y_15, y_16, y_17, y_18, y_19, y_20, y_21, y_10_11, y_10_12, y_10_13, y_10_14, xr_0_8, xr_0_9, xr_0_10, xr_0_11, xr_0_12, xr_0_13, xr_0_14, xs_o, e5, e6, e7, e_osw, e_osw0, Nat.reduceEqDiff, Nat.reduceLeDiff, Nat.reduceLT, if_true, if_false, (xa N).1, (xh N).1, s8 N, s9 N, s10 N]
      · unfold xX12_look
        simp (disch := omega) only [e_gd, e_ix, e_oli2, e_oml2, e_obi2, e_obv2, e_add, e_mul, e_sub, e_eq, e_lt, e_le, e_eq0, e_0eq, e_lt0, e_0lt, e_le0, e_0le, e_m1, e_m1', e_m1lt, Nat.add_assoc, Nat.not_lt_zero, Nat.le_zero_eq, sr_1, sr_14, sr_70, sr_126, sr_182, sr_238, sr_244, sr_292, sr_298, sr_304, sr_310, sr_316, sr_358, sr_400, sr_442, sr_484, sr_526, sr_532, sr_538, so_586, sr_586, sr_2746, sr_2752, sr_3112, sr_3118, sr_3124, sr_3130, sr_6730, sr_6736, sr_6766, sr_6814, sr_6961, sr_6962, sr_7362, sr_7363, sr_7364, su_6961, su_7362, su_7363, e_osw, e_osw0, Nat.reduceEqDiff, if_true, if_false, (xa N).2 N, (xh N).2 N]
    · refine OPN_q h (nI (S 1 13)) (fun N hs => ?_) (fun N => ?_)
      · have e5 : N 22 5 = nI (S 7362 0) := hs.2.2.1
        have e6 : N 22 6 = nI (S 7363 0) := hs.2.2.2.1
        have e7 : N 22 7 = nI (S 1 6) := hs.2.2.2.2.1
        unfold xX11_look xX11_look_32 xX1_figure xX5_figure
        simp (disch := omega) only [e_gd, e_ix, e_oli2, e_oml2, e_obi2, e_obv2, e_add, e_mul, e_sub, e_eq, e_lt, e_le, e_eq0, e_0eq, e_lt0, e_0lt, e_le0, e_0le, e_m1, e_m1', e_m1lt, Nat.add_assoc, Nat.not_lt_zero, Nat.le_zero_eq, Nat.reduceAdd, y_4, y_5, y_6, y_7, y_8, y_11, y_12, y_13, y_14, y_15, y_16, y_17, y_18, y_19, y_20, y_21, y_10_11, y_10_12, y_10_13, y_10_14, xr_0_8, xr_0_9, xr_0_10, xr_0_11, xr_0_12, xr_0_13, xr_0_14, xs_o, e5, e6, e7, e_osw, e_osw0, Nat.reduceEqDiff, Nat.reduceLeDiff, Nat.reduceLT, if_true, if_false, (xa N).1, (xh N).1, s8 N, s9 N, s10 N]
      · unfold xX12_look
        simp (disch := omega) only [e_gd, e_ix, e_oli2, e_oml2, e_obi2, e_obv2, e_add, e_mul, e_sub, e_eq, e_lt, e_le, e_eq0, e_0eq, e_lt0, e_0lt, e_le0, e_0le, e_m1, e_m1', e_m1lt, Nat.add_assoc, Nat.not_lt_zero, Nat.le_zero_eq, sr_1, sr_14, sr_70, sr_126, sr_182, sr_238, sr_244, sr_292, sr_298, sr_304, sr_310, sr_316, sr_358, sr_400, sr_442, sr_484, sr_526, sr_532, sr_538, so_586, sr_586, sr_2746, sr_2752, sr_3112, sr_3118, sr_3124, sr_3130, sr_6730, sr_6736, sr_6766, sr_6814, sr_6961, sr_6962, sr_7362, sr_7363, sr_7364, su_6961, su_7362, su_7363, e_osw, e_osw0, Nat.reduceEqDiff, if_true, if_false, (xa N).2 N, (xh N).2 N]
    · refine OPN_q h (nI (0 + sm2 (fun i => S 586 (9 * i + 4)) (S 1 7) 0)) (fun N hs => ?_) (fun N => ?_)
      · have e5 : N 22 5 = nI (S 7362 0) := hs.2.2.1
        have e6 : N 22 6 = nI (S 7363 0) := hs.2.2.2.1
        have e7 : N 22 7 = nI (S 1 6) := hs.2.2.2.2.1
        unfold xX11_look xX11_look_32 xX1_figure xX5_figure
        simp (disch := omega) only [e_gd, e_ix, e_oli2, e_oml2, e_obi2, e_obv2, e_add, e_mul, e_sub, e_eq, e_lt, e_le, e_eq0, e_0eq, e_lt0, e_0lt, e_le0, e_0le, e_m1, e_m1', e_m1lt, Nat.add_assoc, Nat.not_lt_zero, Nat.le_zero_eq, Nat.reduceAdd, y_4, y_5, y_6, y_7, y_8, y_11, y_12, y_13, y_14, y_15, y_16, y_17, y_18, y_19, y_20, y_21, y_10_11, y_10_12, y_10_13, y_10_14, xr_0_8, xr_0_9, xr_0_10, xr_0_11, xr_0_12, xr_0_13, xr_0_14, xs_o, e5, e6, e7, e_osw, e_osw0, Nat.reduceEqDiff, Nat.reduceLeDiff, Nat.reduceLT, if_true, if_false, (xa N).1, (xh N).1, s8 N, s9 N, s10 N]
      · unfold xX12_look
        simp (disch := omega) only [e_gd, e_ix, e_oli2, e_oml2, e_obi2, e_obv2, e_add, e_mul, e_sub, e_eq, e_lt, e_le, e_eq0, e_0eq, e_lt0, e_0lt, e_le0, e_0le, e_m1, e_m1', e_m1lt, Nat.add_assoc, Nat.not_lt_zero, Nat.le_zero_eq, sr_1, sr_14, sr_70, sr_126, sr_182, sr_238, sr_244, sr_292, sr_298, sr_304, sr_310, sr_316, sr_358, sr_400, sr_442, sr_484, sr_526, sr_532, sr_538, so_586, sr_586, sr_2746, sr_2752, sr_3112, sr_3118, sr_3124, sr_3130, sr_6730, sr_6736, sr_6766, sr_6814, sr_6961, sr_6962, sr_7362, sr_7363, sr_7364, su_6961, su_7362, su_7363, e_osw, e_osw0, Nat.reduceEqDiff, if_true, if_false, (xa N).2 N, (xh N).2 N]
    · refine OPN_q h (nI (S 1 6)) (fun N hs => ?_) (fun N => ?_)
      · have e5 : N 22 5 = nI (S 7362 0) := hs.2.2.1
        have e6 : N 22 6 = nI (S 7363 0) := hs.2.2.2.1
        have e7 : N 22 7 = nI (S 1 6) := hs.2.2.2.2.1
        unfold xX11_look xX11_look_32 xX1_figure xX5_figure
        simp (disch := omega) only [e_gd, e_ix, e_oli2, e_oml2, e_obi2, e_obv2, e_add, e_mul, e_sub, e_eq, e_lt, e_le, e_eq0, e_0eq, e_lt0, e_0lt, e_le0, e_0le, e_m1, e_m1', e_m1lt, Nat.add_assoc, Nat.not_lt_zero, Nat.le_zero_eq, Nat.reduceAdd, y_4, y_5, y_6, y_7, y_8, y_11, y_12, y_13, y_14, y_15, y_16, y_17, y_18, y_19, y_20, y_21, y_10_11, y_10_12, y_10_13, y_10_14, xr_0_8, xr_0_9, xr_0_10, xr_0_11, xr_0_12, xr_0_13, xr_0_14, xs_o, e5, e6, e7, e_osw, e_osw0, Nat.reduceEqDiff, Nat.reduceLeDiff, Nat.reduceLT, if_true, if_false, (xa N).1, (xh N).1, s8 N, s9 N, s10 N]
      · unfold xX12_look
        simp (disch := omega) only [e_gd, e_ix, e_oli2, e_oml2, e_obi2, e_obv2, e_add, e_mul, e_sub, e_eq, e_lt, e_le, e_eq0, e_0eq, e_lt0, e_0lt, e_le0, e_0le, e_m1, e_m1', e_m1lt, Nat.add_assoc, Nat.not_lt_zero, Nat.le_zero_eq, sr_1, sr_14, sr_70, sr_126, sr_182, sr_238, sr_244, sr_292, sr_298, sr_304, sr_310, sr_316, sr_358, sr_400, sr_442, sr_484, sr_526, sr_532, sr_538, so_586, sr_586, sr_2746, sr_2752, sr_3112, sr_3118, sr_3124, sr_3130, sr_6730, sr_6736, sr_6766, sr_6814, sr_6961, sr_6962, sr_7362, sr_7363, sr_7364, su_6961, su_7362, su_7363, e_osw, e_osw0, Nat.reduceEqDiff, if_true, if_false, (xa N).2 N, (xh N).2 N]
    · refine OPN_q h (nI (0 + cn (fun c => S 292 c ≠ 0) (S 1 0) 0)) (fun N hs => ?_) (fun N => ?_)
      · have e5 : N 22 5 = nI (S 7362 0) := hs.2.2.1
        have e6 : N 22 6 = nI (S 7363 0) := hs.2.2.2.1
        have e7 : N 22 7 = nI (S 1 6) := hs.2.2.2.2.1
        unfold xX11_look xX11_look_32 xX1_figure xX5_figure
        simp (disch := omega) only [e_gd, e_ix, e_oli2, e_oml2, e_obi2, e_obv2, e_add, e_mul, e_sub, e_eq, e_lt, e_le, e_eq0, e_0eq, e_lt0, e_0lt, e_le0, e_0le, e_m1, e_m1', e_m1lt, Nat.add_assoc, Nat.not_lt_zero, Nat.le_zero_eq, Nat.reduceAdd, y_4, y_5, y_6, y_7, y_8, y_11, y_12, y_13, y_14, y_15, y_16, y_17, y_18, y_19, y_20, y_21, y_10_11, y_10_12, y_10_13, y_10_14, xr_0_8, xr_0_9, xr_0_10, xr_0_11, xr_0_12, xr_0_13, xr_0_14, xs_o, e5, e6, e7, e_osw, e_osw0, Nat.reduceEqDiff, Nat.reduceLeDiff, Nat.reduceLT, if_true, if_false, (xa N).1, (xh N).1, s8 N, s9 N, s10 N]
      · unfold xX12_look
        simp (disch := omega) only [e_gd, e_ix, e_oli2, e_oml2, e_obi2, e_obv2, e_add, e_mul, e_sub, e_eq, e_lt, e_le, e_eq0, e_0eq, e_lt0, e_0lt, e_le0, e_0le, e_m1, e_m1', e_m1lt, Nat.add_assoc, Nat.not_lt_zero, Nat.le_zero_eq, sr_1, sr_14, sr_70, sr_126, sr_182, sr_238, sr_244, sr_292, sr_298, sr_304, sr_310, sr_316, sr_358, sr_400, sr_442, sr_484, sr_526, sr_532, sr_538, so_586, sr_586, sr_2746, sr_2752, sr_3112, sr_3118, sr_3124, sr_3130, sr_6730, sr_6736, sr_6766, sr_6814, sr_6961, sr_6962, sr_7362, sr_7363, sr_7364, su_6961, su_7362, su_7363, e_osw, e_osw0, Nat.reduceEqDiff, if_true, if_false, (xa N).2 N, (xh N).2 N]
    · refine OPN_q h (nI (S 7362 0)) (fun N hs => ?_) (fun N => ?_)
      · have e5 : N 22 5 = nI (S 7362 0) := hs.2.2.1
        have e6 : N 22 6 = nI (S 7363 0) := hs.2.2.2.1
        have e7 : N 22 7 = nI (S 1 6) := hs.2.2.2.2.1
        unfold xX11_look xX11_look_32 xX1_figure xX5_figure
        simp (disch := omega) only [e_gd, e_ix, e_oli2, e_oml2, e_obi2, e_obv2, e_add, e_mul, e_sub, e_eq, e_lt, e_le, e_eq0, e_0eq, e_lt0, e_0lt, e_le0, e_0le, e_m1, e_m1', e_m1lt, Nat.add_assoc, Nat.not_lt_zero, Nat.le_zero_eq, Nat.reduceAdd, y_4, y_5, y_6, y_7, y_8, y_11, y_12, y_13, y_14, y_15, y_16, y_17, y_18, y_19, y_20, y_21, y_10_11, y_10_12, y_10_13, y_10_14, xr_0_8, xr_0_9, xr_0_10, xr_0_11, xr_0_12, xr_0_13, xr_0_14, xs_o, e5, e6, e7, e_osw, e_osw0, Nat.reduceEqDiff, Nat.reduceLeDiff, Nat.reduceLT, if_true, if_false, (xa N).1, (xh N).1, s8 N, s9 N, s10 N]
      · unfold xX12_look
        simp (disch := omega) only [e_gd, e_ix, e_oli2, e_oml2, e_obi2, e_obv2, e_add, e_mul, e_sub, e_eq, e_lt, e_le, e_eq0, e_0eq, e_lt0, e_0lt, e_le0, e_0le, e_m1, e_m1', e_m1lt, Nat.add_assoc, Nat.not_lt_zero, Nat.le_zero_eq, sr_1, sr_14, sr_70, sr_126, sr_182, sr_238, sr_244, sr_292, sr_298, sr_304, sr_310, sr_316, sr_358, sr_400, sr_442, sr_484, sr_526, sr_532, sr_538, so_586, sr_586, sr_2746, sr_2752, sr_3112, sr_3118, sr_3124, sr_3130, sr_6730, sr_6736, sr_6766, sr_6814, sr_6961, sr_6962, sr_7362, sr_7363, sr_7364, su_6961, su_7362, su_7363, e_osw, e_osw0, Nat.reduceEqDiff, if_true, if_false, (xa N).2 N, (xh N).2 N]
    · refine OPN_q h (nI (S 7363 0)) (fun N hs => ?_) (fun N => ?_)
      · have e5 : N 22 5 = nI (S 7362 0) := hs.2.2.1
        have e6 : N 22 6 = nI (S 7363 0) := hs.2.2.2.1
        have e7 : N 22 7 = nI (S 1 6) := hs.2.2.2.2.1
        unfold xX11_look xX11_look_32 xX1_figure xX5_figure
        simp (disch := omega) only [e_gd, e_ix, e_oli2, e_oml2, e_obi2, e_obv2, e_add, e_mul, e_sub, e_eq, e_lt, e_le, e_eq0, e_0eq, e_lt0, e_0lt, e_le0, e_0le, e_m1, e_m1', e_m1lt, Nat.add_assoc, Nat.not_lt_zero, Nat.le_zero_eq, Nat.reduceAdd, y_4, y_5, y_6, y_7, y_8, y_11, y_12, y_13, y_14, y_15, y_16, y_17, y_18, y_19, y_20, y_21, y_10_11, y_10_12, y_10_13, y_10_14, xr_0_8, xr_0_9, xr_0_10, xr_0_11, xr_0_12, xr_0_13, xr_0_14, xs_o, e5, e6, e7, e_osw, e_osw0, Nat.reduceEqDiff, Nat.reduceLeDiff, Nat.reduceLT, if_true, if_false, (xa N).1, (xh N).1, s8 N, s9 N, s10 N]
      · unfold xX12_look
        simp (disch := omega) only [e_gd, e_ix, e_oli2, e_oml2, e_obi2, e_obv2, e_add, e_mul, e_sub, e_eq, e_lt, e_le, e_eq0, e_0eq, e_lt0, e_0lt, e_le0, e_0le, e_m1, e_m1', e_m1lt, Nat.add_assoc, Nat.not_lt_zero, Nat.le_zero_eq, sr_1, sr_14, sr_70, sr_126, sr_182, sr_238, sr_244, sr_292, sr_298, sr_304, sr_310, sr_316, sr_358, sr_400, sr_442, sr_484, sr_526, sr_532, sr_538, so_586, sr_586, sr_2746, sr_2752, sr_3112, sr_3118, sr_3124, sr_3130, sr_6730, sr_6736, sr_6766, sr_6814, sr_6961, sr_6962, sr_7362, sr_7363, sr_7364, su_6961, su_7362, su_7363, e_osw, e_osw0, Nat.reduceEqDiff, if_true, if_false, (xa N).2 N, (xh N).2 N]
    · refine OPN_q h (nI (S 6961 0)) (fun N hs => ?_) (fun N => ?_)
      · have e5 : N 22 5 = nI (S 7362 0) := hs.2.2.1
        have e6 : N 22 6 = nI (S 7363 0) := hs.2.2.2.1
        have e7 : N 22 7 = nI (S 1 6) := hs.2.2.2.2.1
        unfold xX11_look xX11_look_32 xX1_figure xX5_figure
        simp (disch := omega) only [e_gd, e_ix, e_oli2, e_oml2, e_obi2, e_obv2, e_add, e_mul, e_sub, e_eq, e_lt, e_le, e_eq0, e_0eq, e_lt0, e_0lt, e_le0, e_0le, e_m1, e_m1', e_m1lt, Nat.add_assoc, Nat.not_lt_zero, Nat.le_zero_eq, Nat.reduceAdd, y_4, y_5, y_6, y_7, y_8, y_11, y_12, y_13, y_14, y_15, y_16, y_17, y_18, y_19, y_20, y_21, y_10_11, y_10_12, y_10_13, y_10_14, xr_0_8, xr_0_9, xr_0_10, xr_0_11, xr_0_12, xr_0_13, xr_0_14, xs_o, e5, e6, e7, e_osw, e_osw0, Nat.reduceEqDiff, Nat.reduceLeDiff, Nat.reduceLT, if_true, if_false, (xa N).1, (xh N).1, s8 N, s9 N, s10 N]
      · unfold xX12_look
        simp (disch := omega) only [e_gd, e_ix, e_oli2, e_oml2, e_obi2, e_obv2, e_add, e_mul, e_sub, e_eq, e_lt, e_le, e_eq0, e_0eq, e_lt0, e_0lt, e_le0, e_0le, e_m1, e_m1', e_m1lt, Nat.add_assoc, Nat.not_lt_zero, Nat.le_zero_eq, sr_1, sr_14, sr_70, sr_126, sr_182, sr_238, sr_244, sr_292, sr_298, sr_304, sr_310, sr_316, sr_358, sr_400, sr_442, sr_484, sr_526, sr_532, sr_538, so_586, sr_586, sr_2746, sr_2752, sr_3112, sr_3118, sr_3124, sr_3130, sr_6730, sr_6736, sr_6766, sr_6814, sr_6961, sr_6962, sr_7362, sr_7363, sr_7364, su_6961, su_7362, su_7363, e_osw, e_osw0, Nat.reduceEqDiff, if_true, if_false, (xa N).2 N, (xh N).2 N]
    · refine OPN_q h (-100000) (fun N _ => ?_) (fun N => ?_)
      · unfold xX11_look xX11_look_10
        simp (disch := omega) only [e_gd, e_ix, e_oli2, e_oml2, e_obi2, e_obv2, e_add, e_mul, e_sub, e_eq, e_lt, e_le, e_eq0, e_0eq, e_lt0, e_0lt, e_le0, e_0le, e_m1, e_m1', e_m1lt, Nat.add_assoc, Nat.not_lt_zero, Nat.le_zero_eq, if_false]
        rw [if_neg (by omega)]
      · have hne : ∀ j, j < 19 → ¬ nI k = nI j := fun j hj e => by rw [e_eq (by omega) (by omega)] at e; omega
        unfold xX12_look
        rw [e_osw, if_neg (hne 0 (by omega)), e_osw, if_neg (hne 1 (by omega)), e_osw, if_neg (hne 2 (by omega)), e_osw, if_neg (hne 3 (by omega)), e_osw, if_neg (hne 4 (by omega)), e_osw, if_neg (hne 5 (by omega)), e_osw, if_neg (hne 6 (by omega)), e_osw, if_neg (hne 7 (by omega)), e_osw, if_neg (hne 8 (by omega)), e_osw, if_neg (hne 9 (by omega)), e_osw, if_neg (hne 10 (by omega)), e_osw, if_neg (hne 11 (by omega)), e_osw, if_neg (hne 12 (by omega)), e_osw, if_neg (hne 13 (by omega)), e_osw, if_neg (hne 14 (by omega)), e_osw, if_neg (hne 15 (by omega)), e_osw, if_neg (hne 16 (by omega)), e_osw, if_neg (hne 17 (by omega)), e_osw, if_neg (hne 18 (by omega)), e_osw0]
  · refine OPN_q h (-100000) (fun N _ => ?_) (fun N => ?_)
    · unfold xX11_look xX11_look_10
      rw [if_pos ha]
    · unfold xX12_look
      simp (disch := omega) only [e_osw, e_osw0, neg_eq ha, if_false]
