/-! ===== miss, message, trace ===== -/
theorem op_miss {S : a_S} {b : Nat} (a d : Int32) (h : OKS S b) : OPN (xX11_miss a d) (xX12_miss a d) S b := by
  have hN := g_n h.1.1
  have sc := h.1.2.2.2.2.2.2.1
  unfold SC at sc
  have hms := h.1.2.2.2.2.2.2.2.1
  have hno : ∀ (_ : ∀ N : j_M, xX11_miss a d (XS N 2 S) = some (-1, XS N 2 S)) (_ : ∀ N : j_M, xX12_miss a d (RS N S) = some (-1, RS N S)), OPN (xX11_miss a d) (xX12_miss a d) S b := fun h1 h2 => OPN_q h (-1) (fun N _ => h1 N) h2
  rcases i_cases a with ⟨c, hc, rfl⟩ | ha
  · by_cases hcN : c < S 1 0
    · have g := g_mv h.1.1 c
      have hm0 := msv_0 hms (show c < 6 by omega)
      by_cases h0 : S 292 c = 0
      · refine hno (fun N => ?_) (fun N => ?_)
        · unfold xX11_miss
          rw [x_isCpu h.1.1 hc, if_pos hcN, e_obi2, if_neg (by decide), x_missOf (by omega), e_obi2, f_eq0 (msv_lt h.1.1), if_pos (hm0.2 h0)]
        · unfold xX12_miss
          rw [r_isCpu h.1.1 (by omega) hc, if_pos hcN, e_obi2, if_neg (by decide)]
          simp (disch := omega) only [e_gd, e_ix, e_oli2, e_oml2, e_obi2, e_obv2, e_add, e_mul, e_sub, e_eq, e_lt, e_le, e_eq0, e_0eq, e_lt0, e_0lt, e_le0, e_0le, e_m1, e_m1', e_m1lt, Nat.add_assoc, Nat.not_lt_zero, Nat.le_zero_eq, sr_1, sr_14, sr_70, sr_126, sr_182, sr_238, sr_244, sr_292, sr_298, sr_304, sr_310, sr_316, sr_358, sr_400, sr_442, sr_484, sr_526, sr_532, sr_538, so_586, sr_586, sr_2746, sr_2752, sr_3112, sr_3118, sr_3124, sr_3130, sr_6730, sr_6736, sr_6766, sr_6814, sr_6961, sr_6962, sr_7362, sr_7363, sr_7364, su_6961, su_7362, su_7363, h0, oI_0, if_true]
      · obtain ⟨l, hl⟩ : ∃ l, S 292 c = l + 1 := ⟨S 292 c - 1, by omega⟩
        have ex : ∀ N : j_M, xX11_miss (nI c) d (XS N 2 S) = osw d [((nI 0), some (nI l, XS N 2 S)), ((nI 1), some (nI (S 298 c), XS N 2 S)), ((nI 2), some (nI (S 304 c), XS N 2 S)), ((nI 3), some (nI (S 526 c), XS N 2 S)), ((nI 4), some (nI (S 532 c), XS N 2 S)), ((nI 5), some (nI (S 310 c), XS N 2 S))] (some ((-1 : Int32), XS N 2 S)) := by
          intro N
          unfold xX11_miss
          rw [x_isCpu h.1.1 hc, if_pos hcN, e_obi2, if_neg (by decide), x_missOf (by omega), e_obi2, f_eq0 (msv_lt h.1.1), if_neg (fun e => h0 (hm0.1 e)), msv_l hl, s_line g.1 (by omega) g.2.1 g.2.2.1, e_obi2, s_what g.1, e_obi2, s_val g.1 (by omega) g.2.1 g.2.2.1, e_obi2, s_good g.1 (by omega) g.2.1, e_obi2]
          have q1 : (if nI (S 310 c) = (0 : Int32) then some (nI 0, XS N 2 S) else some (nI 1, XS N 2 S)) = some (nI (S 310 c), XS N 2 S) := by
            rw [f_eq0 (by omega)]
            by_cases e : S 310 c = 0
            · rw [if_pos e, e]
            · rw [if_neg e, show S 310 c = 1 by omega]
          rw [q1]
          simp (disch := omega) only [e_gd, e_ix, e_oli2, e_oml2, e_obi2, e_obv2, e_add, e_mul, e_sub, e_eq, e_lt, e_le, e_eq0, e_0eq, e_lt0, e_0lt, e_le0, e_0le, e_m1, e_m1', e_m1lt, Nat.add_assoc, Nat.not_lt_zero, Nat.le_zero_eq, Nat.reduceAdd, y_4, y_5, y_6, y_7, y_8, y_11, y_12, y_13, y_14, y_15, y_16, y_17, y_18, y_19, y_20, y_21, y_10_11, y_10_12, y_10_13, y_10_14, xr_0_8, xr_0_9, xr_0_10, xr_0_11, xr_0_12, xr_0_13, xr_0_14]
        have er : ∀ N : j_M, xX12_miss (nI c) d (RS N S) = osw d [((nI 0), some (nI l, RS N S)), ((nI 1), some (nI (S 298 c), RS N S)), ((nI 2), some (nI (S 304 c), RS N S)), ((nI 3), some (nI (S 526 c), RS N S)), ((nI 4), some (nI (S 532 c), RS N S)), ((nI 5), some (nI (S 310 c), RS N S))] (some ((-1 : Int32), RS N S)) := by
          intro N
          unfold xX12_miss
          rw [r_isCpu h.1.1 (by omega) hc, if_pos hcN, e_obi2, if_neg (by decide)]
          simp (disch := omega) only [e_gd, e_ix, e_oli2, e_oml2, e_obi2, e_obv2, e_add, e_mul, e_sub, e_eq, e_lt, e_le, e_eq0, e_0eq, e_lt0, e_0lt, e_le0, e_0le, e_m1, e_m1', e_m1lt, Nat.add_assoc, Nat.not_lt_zero, Nat.le_zero_eq, sr_1, sr_14, sr_70, sr_126, sr_182, sr_238, sr_244, sr_292, sr_298, sr_304, sr_310, sr_316, sr_358, sr_400, sr_442, sr_484, sr_526, sr_532, sr_538, so_586, sr_586, sr_2746, sr_2752, sr_3112, sr_3118, sr_3124, sr_3130, sr_6730, sr_6736, sr_6766, sr_6814, sr_6961, sr_6962, sr_7362, sr_7363, sr_7364, su_6961, su_7362, su_7363, hl, oI_s, if_false]
        rcases i_cases d with ⟨k, hk, rfl⟩ | hd
        · have ck : k = 0 ∨ k = 1 ∨ k = 2 ∨ k = 3 ∨ k = 4 ∨ k = 5 ∨ 6 ≤ k := by omega
          rcases ck with rfl | rfl | rfl | rfl | rfl | rfl | hk7
          · exact OPN_q h (nI l) (fun N _ => by rw [ex]; simp (disch := omega) only [e_osw, e_eq, Nat.reduceEqDiff, if_true, if_false]) (fun N => by rw [er]; simp (disch := omega) only [e_osw, e_eq, Nat.reduceEqDiff, if_true, if_false])
          · exact OPN_q h (nI (S 298 c)) (fun N _ => by rw [ex]; simp (disch := omega) only [e_osw, e_eq, Nat.reduceEqDiff, if_true, if_false]) (fun N => by rw [er]; simp (disch := omega) only [e_osw, e_eq, Nat.reduceEqDiff, if_true, if_false])
          · exact OPN_q h (nI (S 304 c)) (fun N _ => by rw [ex]; simp (disch := omega) only [e_osw, e_eq, Nat.reduceEqDiff, if_true, if_false]) (fun N => by rw [er]; simp (disch := omega) only [e_osw, e_eq, Nat.reduceEqDiff, if_true, if_false])
          · exact OPN_q h (nI (S 526 c)) (fun N _ => by rw [ex]; simp (disch := omega) only [e_osw, e_eq, Nat.reduceEqDiff, if_true, if_false]) (fun N => by rw [er]; simp (disch := omega) only [e_osw, e_eq, Nat.reduceEqDiff, if_true, if_false])
          · exact OPN_q h (nI (S 532 c)) (fun N _ => by rw [ex]; simp (disch := omega) only [e_osw, e_eq, Nat.reduceEqDiff, if_true, if_false]) (fun N => by rw [er]; simp (disch := omega) only [e_osw, e_eq, Nat.reduceEqDiff, if_true, if_false])
          · exact OPN_q h (nI (S 310 c)) (fun N _ => by rw [ex]; simp (disch := omega) only [e_osw, e_eq, Nat.reduceEqDiff, if_true, if_false]) (fun N => by rw [er]; simp (disch := omega) only [e_osw, e_eq, Nat.reduceEqDiff, if_true, if_false])
          · refine hno (fun N => ?_) (fun N => ?_)
            · rw [ex]
              simp (disch := omega) only [e_osw, e_osw0, e_eq]
              rw [if_neg (by omega), if_neg (by omega), if_neg (by omega), if_neg (by omega), if_neg (by omega), if_neg (by omega)]
            · rw [er]
              simp (disch := omega) only [e_osw, e_osw0, e_eq]
              rw [if_neg (by omega), if_neg (by omega), if_neg (by omega), if_neg (by omega), if_neg (by omega), if_neg (by omega)]
        · refine hno (fun N => ?_) (fun N => ?_)
          · rw [ex]; simp (disch := omega) only [e_osw, e_osw0, neg_eq hd, if_false]
          · rw [er]; simp (disch := omega) only [e_osw, e_osw0, neg_eq hd, if_false]
    · refine hno (fun N => ?_) (fun N => ?_)
      · unfold xX11_miss
        rw [x_isCpu h.1.1 hc, if_neg hcN, e_obi2, if_pos (by decide)]
      · unfold xX12_miss
        rw [r_isCpu h.1.1 (by omega) hc, if_neg hcN, e_obi2, if_pos (by decide)]
  · refine hno (fun N => ?_) (fun N => ?_)
    · unfold xX11_miss
      rw [x_isCpuN ha, e_obi2, if_pos (by decide)]
    · unfold xX12_miss
      rw [q_isCpuN h.1.1 (by omega) ha, e_obi2, if_pos (by decide)]
/-- what is inside a letter -/
theorem l_inside {M : j_M} {n w : Nat} {g : Nat → Nat} (hv : VMf n g) (h0 : g 0 < 8) (h1 : g 1 < 8) (h3 : g 3 < 8) (h4 : g 4 < 16) (h5 : g 5 < 2) (h6 : g 6 ≤ 10000) (h7 : g 7 ≤ 10100) (h8 : g 8 < 4) (hw : 4 ≤ w ∧ w ≤ 8) : xX4_inside (nI (lcv g)) (nI w) M = some (if w = 6 then oI (g 6) else nI (g w), M) := by
  have lc := lc_fd hv
  unfold VMf at hv
  have hcg : cgv g < 524288 := by unfold cgv; omega
  have k5 : g 2 ≤ 5 := hv.2.1
  have k1 : 1 ≤ g 2 := hv.1
  have eu : us (nI (lvv (g 0) (g 1) (g 2) (g 3) (cgv g))) (nI 12) = nI (cgv g) := by
    have := l_cargo (M := M) (f := g 0) (t := g 1) (k := g 2) (l := g 3) (c := cgv g) h0 h1 (by omega) h3 hcg
    unfold xX4_cargo at this
    injection this with this
    injection this
  unfold xX4_inside
  rw [lc, l_kind h0 h1 (by omega) h3 hcg, e_obi2, eu, f_eq (by omega) (by omega)]
  unfold xX4_inside_20 xX4_inside_32
  rw [f_eq (by omega) (by omega), f_eq (by omega) (by omega)]
  have hcs : w = 4 ∨ w = 5 ∨ w = 6 ∨ w = 7 ∨ w = 8 := by omega
  by_cases k3 : g 2 = 3
  · have q := hv.2.2.1 k3
    have e15 : cgv g &&& 15 = g 4 := by unfold cgv; rw [n_m15]; omega
    have e16 : cgv g &&& 16 = 16 * g 5 := by unfold cgv; rw [n_b16]; omega
    have e5 : cgv g / 2 ^ 5 = g 6 := by unfold cgv; omega
    rw [if_pos k3, if_neg (by omega), if_neg (by omega)]
    unfold xX4_inside_37
    rcases hcs with rfl | rfl | rfl | rfl | rfl
    · simp (disch := omega) only [e_osw, e_eq, e_and, e15, Nat.reduceEqDiff, if_true, if_false, n10]
    · simp (disch := omega) only [e_osw, e_eq, e_and, e16, Nat.reduceEqDiff, if_true, if_false, n10, e_eq0]
      by_cases e : g 5 = 0
      · rw [if_pos (by omega), e]
      · rw [if_neg (by omega), show g 5 = 1 by omega]
    · simp (disch := omega) only [e_osw, e_eq, e_us, e5, Nat.reduceEqDiff, if_true, if_false, n10]
      by_cases e : g 6 = 0
      · rw [e]
        rfl
      · obtain ⟨u, hu⟩ : ∃ u, g 6 = u + 1 := ⟨g 6 - 1, by omega⟩
        rw [hu, e_sub (by omega), Nat.add_sub_cancel]
        rfl
    · simp (disch := omega) only [e_osw, e_eq, Nat.reduceEqDiff, if_true, if_false, n00]
      rw [q.2.1]
    · simp (disch := omega) only [e_osw, e_osw0, e_eq, Nat.reduceEqDiff, if_false]
      rw [if_neg (by omega), q.2.2]
  · have q := hv.2.2.2.1 k3
    rw [if_neg k3, f_eq (by omega) (by omega), f_eq (by omega) (by omega)]
    by_cases k4 : g 2 = 4
    · have e2 : cgv g / 2 ^ 2 = g 7 := by unfold cgv; omega
      have e3 : cgv g &&& 3 = g 8 := by unfold cgv; rw [n_m3]; omega
      rw [if_pos k4]
      unfold xX4_inside_37
      rcases hcs with rfl | rfl | rfl | rfl | rfl
      · simp (disch := omega) only [e_osw, e_eq, Nat.reduceEqDiff, if_true, if_false, n00]
        rw [q.1]
      · simp (disch := omega) only [e_osw, e_eq, Nat.reduceEqDiff, if_true, if_false, n00]
        rw [q.2.1]
      · simp (disch := omega) only [e_osw, e_eq, Nat.reduceEqDiff, if_true, if_false, n00]
        rw [q.2.2.1]
        rfl
      · simp (disch := omega) only [e_osw, e_eq, e_us, e2, Nat.reduceEqDiff, if_true, if_false, n10]
      · simp (disch := omega) only [e_osw, e_osw0, e_eq, e_and, e3, Nat.reduceEqDiff, if_false]
        rw [if_pos k4]
    · rw [if_neg k4]
      by_cases k55 : g 2 = 5
      · have e2 : cgv g / 2 ^ 2 = g 7 := by have := hv.2.2.2.2.2.1 k55; unfold cgv; omega
        rw [if_pos k55]
        unfold xX4_inside_37
        rcases hcs with rfl | rfl | rfl | rfl | rfl
        · simp (disch := omega) only [e_osw, e_eq, Nat.reduceEqDiff, if_true, if_false, n00]
          rw [q.1]
        · simp (disch := omega) only [e_osw, e_eq, Nat.reduceEqDiff, if_true, if_false, n00]
          rw [q.2.1]
        · simp (disch := omega) only [e_osw, e_eq, Nat.reduceEqDiff, if_true, if_false, n00]
          rw [q.2.2.1]
          rfl
        · simp (disch := omega) only [e_osw, e_eq, e_us, e2, Nat.reduceEqDiff, if_true, if_false, n10]
        · simp (disch := omega) only [e_osw, e_osw0, e_eq, Nat.reduceEqDiff, if_false]
          rw [if_neg k4, hv.2.2.2.2.2.1 k55]
      · have q2 := hv.2.2.2.2.1 (by omega)
        rw [if_neg k55]
        unfold xX4_inside_37
        rcases hcs with rfl | rfl | rfl | rfl | rfl
        · simp (disch := omega) only [e_osw, e_eq, Nat.reduceEqDiff, if_true, if_false, n00]
          rw [q.1]
        · simp (disch := omega) only [e_osw, e_eq, Nat.reduceEqDiff, if_true, if_false, n00]
          rw [q.2.1]
        · simp (disch := omega) only [e_osw, e_eq, Nat.reduceEqDiff, if_true, if_false, n00]
          rw [q.2.2.1]
          rfl
        · simp (disch := omega) only [e_osw, e_eq, Nat.reduceEqDiff, if_true, if_false, n00]
          rw [q2.1]
        · simp (disch := omega) only [e_osw, e_osw0, e_eq, Nat.reduceEqDiff, if_false]
          rw [if_neg k4, q2.2]
theorem li_ {S : a_S} {i w : Nat} {M : j_M} (hi : INV S z0) (hl : i < S 1 7) (hw : 4 ≤ w ∧ w ≤ 8) : xX4_inside (nI (lcv (fd S i))) (nI w) M = some (if w = 6 then oI (S 586 (9 * i + 6)) else nI (S 586 (9 * i + w)), M) := by
  have g := g_f hi.1 i
  exact l_inside (hi.2.2.2.1 i hl) (show S 586 (9 * i) < 8 by omega) (show S 586 (9 * i + 1) < 8 by omega) (show S 586 (9 * i + 3) < 8 by omega) (show S 586 (9 * i + 4) < 16 by omega) g.2.2.2.2.2.1 g.2.2.2.2.2.2.1 g.2.2.2.2.2.2.2.1 g.2.2.2.2.2.2.2.2 hw
theorem lf_ {S : a_S} {i : Nat} {M : j_M} (hi : INV S z0) (hl : i < S 1 7) : xX4_from (nI (lcv (fd S i))) M = some (nI (S 586 (9 * i)), M) ∧ xX4_to (nI (lcv (fd S i))) M = some (nI (S 586 (9 * i + 1)), M) ∧ xX4_kind (nI (lcv (fd S i))) M = some (nI (S 586 (9 * i + 2)), M) ∧ xX4_line (nI (lcv (fd S i))) M = some (nI (S 586 (9 * i + 3)), M) := by
  have cg := cg_lt hi.1 i
  rw [lc_fd (hi.2.2.2.1 i hl)]
  exact ⟨l_from cg.2.1, l_to cg.2.1 cg.2.2.1 cg.2.2.2.1 cg.2.2.2.2 cg.1, l_kind cg.2.1 cg.2.2.1 cg.2.2.2.1 cg.2.2.2.2 cg.1, l_line cg.2.1 cg.2.2.1 cg.2.2.2.1 cg.2.2.2.2 cg.1⟩
theorem op_message {S : a_S} {b : Nat} (a d : Int32) (h : OKS S b) : OPN (xX11_message a d) (xX12_message a d) S b := by
  have hq := INV_q h.1
  have hno : ∀ (_ : ∀ N : j_M, xX11_message a d (XS N 2 S) = some (-2, XS N 2 S)) (_ : ∀ N : j_M, xX12_message a d (RS N S) = some (-2, RS N S)), OPN (xX11_message a d) (xX12_message a d) S b := fun h1 h2 => OPN_q h (-2) (fun N _ => h1 N) h2
  rcases i_cases a with ⟨i, hi, rfl⟩ | ha
  · by_cases hlt : i < S 1 7
    · have er : ∀ N : j_M, xX12_message (nI i) d (RS N S) = obi (xX12_isIn d (nI 0) (nI 8) (RS N S)) fun v5 M4 => (if v5 = (0 : Int32) then some ((-2 : Int32), M4) else obi (xX12_of (nI i) d M4) fun v7 M6 => some (v7, M6)) := by
        intro N
        unfold xX12_message
        simp (disch := omega) only [e_gd, e_ix, e_oli2, e_oml2, e_obi2, e_obv2, e_add, e_mul, e_sub, e_eq, e_lt, e_le, e_eq0, e_0eq, e_lt0, e_0lt, e_le0, e_0le, e_m1, e_m1', e_m1lt, Nat.add_assoc, Nat.not_lt_zero, Nat.le_zero_eq, sr_1, sr_14, sr_70, sr_126, sr_182, sr_238, sr_244, sr_292, sr_298, sr_304, sr_310, sr_316, sr_358, sr_400, sr_442, sr_484, sr_526, sr_532, sr_538, so_586, sr_586, sr_2746, sr_2752, sr_3112, sr_3118, sr_3124, sr_3130, sr_6730, sr_6736, sr_6766, sr_6814, sr_6961, sr_6962, sr_7362, sr_7363, sr_7364, su_6961, su_7362, su_7363, m_isIn]
        have c1 : 0 ≤ i ∧ i ≤ S 1 7 - 1 := by omega
        rw [if_pos c1, if_neg (by decide)]
      rcases i_cases d with ⟨w, hw, rfl⟩ | hd
      · by_cases hw8 : w ≤ 8
        · have lf := fun M => lf_ (M := M) h.1 hlt
          refine OPN_q h (if w = 6 then oI (S 586 (9 * i + 6)) else nI (S 586 (9 * i + w))) (fun N _ => ?_) (fun N => ?_)
          · have l1 := (lf (XS N 2 S)).1
            have l2 := (lf (XS N 2 S)).2.1
            have l3 := (lf (XS N 2 S)).2.2.1
            have l4 := (lf (XS N 2 S)).2.2.2
            unfold xX11_message
            by_cases w4 : 4 ≤ w
            · have li := li_ (M := XS N 2 S) h.1 hlt ⟨w4, hw8⟩
              simp (disch := omega) only [e_gd, e_ix, e_oli2, e_oml2, e_obi2, e_obv2, e_add, e_mul, e_sub, e_eq, e_lt, e_le, e_eq0, e_0eq, e_lt0, e_0lt, e_le0, e_0le, e_m1, e_m1', e_m1lt, Nat.add_assoc, Nat.not_lt_zero, Nat.le_zero_eq, Nat.reduceAdd, y_4, y_5, y_6, y_7, y_8, y_11, y_12, y_13, y_14, y_15, y_16, y_17, y_18, y_19, y_20, y_21, y_10_11, y_10_12, y_10_13, y_10_14, xr_0_8, xr_0_9, xr_0_10, xr_0_11, xr_0_12, xr_0_13, xr_0_14, if_neg, if_pos, if_false, e_osw, e_osw0, li]
            · have cw : w = 0 ∨ w = 1 ∨ w = 2 ∨ w = 3 := by omega
              rcases cw with rfl | rfl | rfl | rfl <;> simp (disch := omega) only [e_gd, e_ix, e_oli2, e_oml2, e_obi2, e_obv2, e_add, e_mul, e_sub, e_eq, e_lt, e_le, e_eq0, e_0eq, e_lt0, e_0lt, e_le0, e_0le, e_m1, e_m1', e_m1lt, Nat.add_assoc, Nat.not_lt_zero, Nat.le_zero_eq, Nat.reduceAdd, y_4, y_5, y_6, y_7, y_8, y_11, y_12, y_13, y_14, y_15, y_16, y_17, y_18, y_19, y_20, y_21, y_10_11, y_10_12, y_10_13, y_10_14, xr_0_8, xr_0_9, xr_0_10, xr_0_11, xr_0_12, xr_0_13, xr_0_14, if_neg, if_pos, if_false, if_true, e_osw, e_osw0, l1, l2, l3, l4, Nat.reduceEqDiff, Nat.add_zero]
          · rw [er, m_isIn _ hw (by omega) (by omega), if_pos (by omega), e_obi2, if_neg (by decide)]
            by_cases w6 : w = 6
            · rw [w6, if_pos rfl, r_of9 (by omega) (by omega), e_obi2, enc_o (by omega)]
            · rw [if_neg w6, r_of (by omega) (by omega) w6, e_obi2]
        · refine hno (fun N => ?_) (fun N => ?_)
          · unfold xX11_message
            simp (disch := omega) only [e_gd, e_ix, e_oli2, e_oml2, e_obi2, e_obv2, e_add, e_mul, e_sub, e_eq, e_lt, e_le, e_eq0, e_0eq, e_lt0, e_0lt, e_le0, e_0le, e_m1, e_m1', e_m1lt, Nat.add_assoc, Nat.not_lt_zero, Nat.le_zero_eq, Nat.reduceAdd, y_4, y_5, y_6, y_7, y_8, y_11, y_12, y_13, y_14, y_15, y_16, y_17, y_18, y_19, y_20, y_21, y_10_11, y_10_12, y_10_13, y_10_14, xr_0_8, xr_0_9, xr_0_10, xr_0_11, xr_0_12, xr_0_13, xr_0_14, if_neg, if_false]
          · rw [er, m_isIn _ hw (by omega) (by omega), if_neg (by omega), e_obi2, if_pos (by decide)]
      · refine hno (fun N => ?_) (fun N => ?_)
        · unfold xX11_message
          simp (disch := omega) only [e_gd, e_ix, e_oli2, e_oml2, e_obi2, e_obv2, e_add, e_mul, e_sub, e_eq, e_lt, e_le, e_eq0, e_0eq, e_lt0, e_0lt, e_le0, e_0le, e_m1, e_m1', e_m1lt, Nat.add_assoc, Nat.not_lt_zero, Nat.le_zero_eq, Nat.reduceAdd, y_4, y_5, y_6, y_7, y_8, y_11, y_12, y_13, y_14, y_15, y_16, y_17, y_18, y_19, y_20, y_21, y_10_11, y_10_12, y_10_13, y_10_14, xr_0_8, xr_0_9, xr_0_10, xr_0_11, xr_0_12, xr_0_13, xr_0_14, if_neg, if_false, neg_0 hd, if_true]
        · rw [er, q_isInN hd (by omega), e_obi2, if_pos (by decide)]
    · refine hno (fun N => ?_) (fun N => ?_)
      · unfold xX11_message
        simp (disch := omega) only [e_gd, e_ix, e_oli2, e_oml2, e_obi2, e_obv2, e_add, e_mul, e_sub, e_eq, e_lt, e_le, e_eq0, e_0eq, e_lt0, e_0lt, e_le0, e_0le, e_m1, e_m1', e_m1lt, Nat.add_assoc, Nat.not_lt_zero, Nat.le_zero_eq, Nat.reduceAdd, y_4, y_5, y_6, y_7, y_8, y_11, y_12, y_13, y_14, y_15, y_16, y_17, y_18, y_19, y_20, y_21, y_10_11, y_10_12, y_10_13, y_10_14, xr_0_8, xr_0_9, xr_0_10, xr_0_11, xr_0_12, xr_0_13, xr_0_14, if_pos, if_false]
      · unfold xX12_message
        by_cases h0 : S 1 7 = 0
        · have e1 : nI 0 - nI 1 = (-1 : Int32) := by decide
          unfold xX12_isIn
          simp (disch := omega) only [e_gd, e_ix, e_oli2, e_oml2, e_obi2, e_obv2, e_add, e_mul, e_sub, e_eq, e_lt, e_le, e_eq0, e_0eq, e_lt0, e_0lt, e_le0, e_0le, e_m1, e_m1', e_m1lt, Nat.add_assoc, Nat.not_lt_zero, Nat.le_zero_eq, sr_1, sr_14, sr_70, sr_126, sr_182, sr_238, sr_244, sr_292, sr_298, sr_304, sr_310, sr_316, sr_358, sr_400, sr_442, sr_484, sr_526, sr_532, sr_538, so_586, sr_586, sr_2746, sr_2752, sr_3112, sr_3118, sr_3124, sr_3130, sr_6730, sr_6736, sr_6766, sr_6814, sr_6961, sr_6962, sr_7362, sr_7363, sr_7364, su_6961, su_7362, su_7363, h0, e1, if_false, if_true]
        · simp (disch := omega) only [e_gd, e_ix, e_oli2, e_oml2, e_obi2, e_obv2, e_add, e_mul, e_sub, e_eq, e_lt, e_le, e_eq0, e_0eq, e_lt0, e_0lt, e_le0, e_0le, e_m1, e_m1', e_m1lt, Nat.add_assoc, Nat.not_lt_zero, Nat.le_zero_eq, sr_1, sr_14, sr_70, sr_126, sr_182, sr_238, sr_244, sr_292, sr_298, sr_304, sr_310, sr_316, sr_358, sr_400, sr_442, sr_484, sr_526, sr_532, sr_538, so_586, sr_586, sr_2746, sr_2752, sr_3112, sr_3118, sr_3124, sr_3130, sr_6730, sr_6736, sr_6766, sr_6814, sr_6961, sr_6962, sr_7362, sr_7363, sr_7364, su_6961, su_7362, su_7363, m_isIn]
          have c1 : ¬ (0 ≤ i ∧ i ≤ S 1 7 - 1) := by omega
          rw [if_neg c1, if_pos (by decide)]
  · refine hno (fun N => ?_) (fun N => ?_)
    · unfold xX11_message
      rw [if_pos ha]
    · unfold xX12_message xX12_isIn
      simp (disch := omega) only [e_gd, e_ix, e_oli2, e_oml2, e_obi2, e_obv2, e_add, e_mul, e_sub, e_eq, e_lt, e_le, e_eq0, e_0eq, e_lt0, e_0lt, e_le0, e_0le, e_m1, e_m1', e_m1lt, Nat.add_assoc, Nat.not_lt_zero, Nat.le_zero_eq, sr_1, sr_14, sr_70, sr_126, sr_182, sr_238, sr_244, sr_292, sr_298, sr_304, sr_310, sr_316, sr_358, sr_400, sr_442, sr_484, sr_526, sr_532, sr_538, so_586, sr_586, sr_2746, sr_2752, sr_3112, sr_3118, sr_3124, sr_3130, sr_6730, sr_6736, sr_6766, sr_6814, sr_6961, sr_6962, sr_7362, sr_7363, sr_7364, su_6961, su_7362, su_7363, neg_lt ha, if_true]
theorem op_trace {S : a_S} {b : Nat} (a d : Int32) (h : OKS S b) : OPN (xX11_trace a d) (xX12_trace a d) S b := by
  have h9 := OKS_9 h
  have hno : ∀ (_ : ∀ N : j_M, xX11_trace a d (XS N 2 S) = some (-1, XS N 2 S)) (_ : ∀ N : j_M, xX12_trace a d (RS N S) = some (-1, RS N S)), OPN (xX11_trace a d) (xX12_trace a d) S b := fun h1 h2 => OPN_q h (-1) (fun N _ => h1 N) h2
  have er0 : ∀ N : j_M, xX12_trace a d (RS N S) = xX12_trace_26 a d (nI (if S 6961 0 ≤ 100 then S 6961 0 else 100)) (RS N S) := by
    intro N
    unfold xX12_trace
    simp (disch := omega) only [e_gd, e_ix, e_oli2, e_oml2, e_obi2, e_obv2, e_add, e_mul, e_sub, e_eq, e_lt, e_le, e_eq0, e_0eq, e_lt0, e_0lt, e_le0, e_0le, e_m1, e_m1', e_m1lt, Nat.add_assoc, Nat.not_lt_zero, Nat.le_zero_eq, sr_1, sr_14, sr_70, sr_126, sr_182, sr_238, sr_244, sr_292, sr_298, sr_304, sr_310, sr_316, sr_358, sr_400, sr_442, sr_484, sr_526, sr_532, sr_538, so_586, sr_586, sr_2746, sr_2752, sr_3112, sr_3118, sr_3124, sr_3130, sr_6730, sr_6736, sr_6766, sr_6814, sr_6961, sr_6962, sr_7362, sr_7363, sr_7364, su_6961, su_7362, su_7363]
    split <;> rfl
  generalize hT : (if S 6961 0 ≤ 100 then S 6961 0 else 100) = T at *
  have hT1 : T ≤ S 6961 0 ∧ T ≤ 100 ∧ (T = S 6961 0 ∨ T = 100) := by split at hT <;> omega
  rcases i_cases a with ⟨i, hi, rfl⟩ | ha
  · by_cases hlt : i < T
    · have tr := h.2.2.1 ((S 6961 0 - 1 - i) % 100) (Nat.mod_lt _ (by omega))
      generalize hj : (S 6961 0 - 1 - i) % 100 = j at *
      have hj100 : j < 100 := by rw [← hj]; exact Nat.mod_lt _ (by omega)
      have ex : ∀ N : j_M, xX11_trace (nI i) d (XS N 2 S) = osw d [((nI 0), some (nI (S 6962 (4 * j)), XS N 2 S)), ((nI 1), some (nI (S 6962 (4 * j + 1)), XS N 2 S)), ((nI 2), some (nI (S 6962 (4 * j + 2)), XS N 2 S)), ((nI 3), some (nI (S 6962 (4 * j + 3)), XS N 2 S))] (some ((-1 : Int32), XS N 2 S)) := by
        intro N
        have u1 : us (nI (tv S j)) (nI 9) = nI (S 6962 (4 * j)) := by
          unfold tv
          rw [e_us (by omega) (by omega)]
          congr 1
          omega
        have u2 : us (nI (tv S j)) (nI 6) &&& nI 7 = nI (S 6962 (4 * j + 1)) := by
          unfold tv
          rw [e_us (by omega) (by omega), e_and, n_m7]
          congr 1
          omega
        have u3 : us (nI (tv S j)) (nI 3) &&& nI 7 = nI (S 6962 (4 * j + 2)) := by
          unfold tv
          rw [e_us (by omega) (by omega), e_and, n_m7]
          congr 1
          omega
        have u4 : nI (tv S j) &&& nI 7 = nI (S 6962 (4 * j + 3)) := by
          unfold tv
          rw [e_and, n_m7]
          congr 1
          omega
        unfold xX11_trace
        simp (disch := omega) only [e_gd, e_ix, e_oli2, e_oml2, e_obi2, e_obv2, e_add, e_mul, e_sub, e_eq, e_lt, e_le, e_eq0, e_0eq, e_lt0, e_0lt, e_le0, e_0le, e_m1, e_m1', e_m1lt, Nat.add_assoc, Nat.not_lt_zero, Nat.le_zero_eq, Nat.reduceAdd, y_4, y_5, y_6, y_7, y_8, y_11, y_12, y_13, y_14, y_15, y_16, y_17, y_18, y_19, y_20, y_21, y_10_11, y_10_12, y_10_13, y_10_14, xr_0_8, xr_0_9, xr_0_10, xr_0_11, xr_0_12, xr_0_13, xr_0_14, if_neg, if_pos, if_false, e_gn, e_rem, hj, u1, u2, u3, u4]
      have er : ∀ N : j_M, xX12_trace (nI i) d (RS N S) = obi (xX12_isIn d (nI 0) (nI 3) (RS N S)) fun v4 M3 => (if v4 = (0 : Int32) then some ((-1 : Int32), M3) else gd (nI 6961) 7460 (oli (M3 201 (ix (nI 6961))) fun v5 => gn (nI 100) (gd (((nI 6962) + ((nI 4) * (((v5 - (nI 1)) - (nI i)) - ((v5 - (nI 1)) - (nI i)) / (nI 100) * (nI 100)))) + d) 7460 (oli (M3 201 (ix (((nI 6962) + ((nI 4) * (((v5 - (nI 1)) - (nI i)) - ((v5 - (nI 1)) - (nI i)) / (nI 100) * (nI 100)))) + d))) fun v6 => some (v6, M3))))) := by
        intro N
        rw [er0]
        unfold xX12_trace_26
        rw [e_sub (by omega), m_isIn _ hi (by omega) (by omega), if_pos (by omega), e_obi2, if_neg (by decide)]
      rcases i_cases d with ⟨k, hk, rfl⟩ | hd
      · by_cases hk3 : k ≤ 3
        · refine OPN_q h (nI (S 6962 (4 * j + k))) (fun N _ => ?_) (fun N => ?_)
          · rw [ex]
            have ck : k = 0 ∨ k = 1 ∨ k = 2 ∨ k = 3 := by omega
            rcases ck with rfl | rfl | rfl | rfl <;> simp (disch := omega) only [e_osw, e_eq, Nat.reduceEqDiff, if_true, if_false, Nat.add_zero]
          · rw [er, m_isIn _ hk (by omega) (by omega), if_pos (by omega), e_obi2, if_neg (by decide)]
            simp (disch := omega) only [e_gd, e_ix, e_oli2, e_oml2, e_obi2, e_obv2, e_add, e_mul, e_sub, e_eq, e_lt, e_le, e_eq0, e_0eq, e_lt0, e_0lt, e_le0, e_0le, e_m1, e_m1', e_m1lt, Nat.add_assoc, Nat.not_lt_zero, Nat.le_zero_eq, sr_1, sr_14, sr_70, sr_126, sr_182, sr_238, sr_244, sr_292, sr_298, sr_304, sr_310, sr_316, sr_358, sr_400, sr_442, sr_484, sr_526, sr_532, sr_538, so_586, sr_586, sr_2746, sr_2752, sr_3112, sr_3118, sr_3124, sr_3130, sr_6730, sr_6736, sr_6766, sr_6814, sr_6961, sr_6962, sr_7362, sr_7363, sr_7364, su_6961, su_7362, su_7363, e_gn, e_rem, hj]
        · refine hno (fun N => ?_) (fun N => ?_)
          · rw [ex]
            simp (disch := omega) only [e_osw, e_osw0, e_eq]
            rw [if_neg (by omega), if_neg (by omega), if_neg (by omega), if_neg (by omega)]
          · rw [er, m_isIn _ hk (by omega) (by omega), if_neg (by omega), e_obi2, if_pos (by decide)]
      · refine hno (fun N => ?_) (fun N => ?_)
        · rw [ex]; simp (disch := omega) only [e_osw, e_osw0, neg_eq hd, if_false]
        · rw [er, q_isInN hd (by omega), e_obi2, if_pos (by decide)]
    · refine hno (fun N => ?_) (fun N => ?_)
      · unfold xX11_trace
        simp (disch := omega) only [e_gd, e_ix, e_oli2, e_oml2, e_obi2, e_obv2, e_add, e_mul, e_sub, e_eq, e_lt, e_le, e_eq0, e_0eq, e_lt0, e_0lt, e_le0, e_0le, e_m1, e_m1', e_m1lt, Nat.add_assoc, Nat.not_lt_zero, Nat.le_zero_eq, Nat.reduceAdd, y_4, y_5, y_6, y_7, y_8, y_11, y_12, y_13, y_14, y_15, y_16, y_17, y_18, y_19, y_20, y_21, y_10_11, y_10_12, y_10_13, y_10_14, xr_0_8, xr_0_9, xr_0_10, xr_0_11, xr_0_12, xr_0_13, xr_0_14, if_false]
        by_cases c1 : 100 ≤ i
        · rw [if_pos c1]
        · rw [if_neg c1, if_neg (by omega)]
      · rw [er0]
        unfold xX12_trace_26
        by_cases h0 : T = 0
        · have e1 : nI 0 - nI 1 = (-1 : Int32) := by decide
          unfold xX12_isIn
          rw [h0, e1]
          simp (disch := omega) only [e_gd, e_ix, e_oli2, e_oml2, e_obi2, e_obv2, e_add, e_mul, e_sub, e_eq, e_lt, e_le, e_eq0, e_0eq, e_lt0, e_0lt, e_le0, e_0le, e_m1, e_m1', e_m1lt, Nat.add_assoc, Nat.not_lt_zero, Nat.le_zero_eq, if_false, if_true]
        · rw [e_sub (by omega), m_isIn _ hi (by omega) (by omega), if_neg (by omega), e_obi2, if_pos (by decide)]
  · refine hno (fun N => ?_) (fun N => ?_)
    · unfold xX11_trace
      rw [if_pos ha]
    · rw [er0]
      unfold xX12_trace_26 xX12_isIn
      simp (disch := omega) only [e_gd, e_ix, e_oli2, e_oml2, e_obi2, e_obv2, e_add, e_mul, e_sub, e_eq, e_lt, e_le, e_eq0, e_0eq, e_lt0, e_0lt, e_le0, e_0le, e_m1, e_m1', e_m1lt, Nat.add_assoc, Nat.not_lt_zero, Nat.le_zero_eq, neg_lt ha, if_true]
