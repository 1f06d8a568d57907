/-! ===== the class: tokens come; a message is delivered ===== -/
theorem x_lines_l {N : j_M} {t B U : Nat} {d : Nat → Nat} {M : j_M} (hB : B < 4294967296) (hn : ∀ k, k < 8 → B / 16 ^ k % 16 = d k) (hU : U ≤ 8) (h0 : ∀ k, k < 8 → (d k = 0 ↔ U ≤ k)) : ∀ (m n k : Nat), k + m = 8 → xX1_linesHeld_18 t (n + m + 1) (nI B) (nI (min k U)) (nI k) M = some (nI U, M)
  | 0, n, k, hk => by
    rw [show n + 0 + 1 = n + 1 from rfl, xX1_linesHeld_18.eq_2, Nat.min_eq_right (by omega)]
    simp (disch := omega) only [e_gd, e_ix, e_oli2, e_oml2, e_obi2, e_obv2, e_add, e_mul, e_sub, e_eq, e_lt, e_le, e_eq0, e_0eq, e_lt0, e_0lt, e_le0, e_0le, e_m1, e_m1', e_m1lt, Nat.add_assoc, Nat.not_lt_zero, Nat.le_zero_eq, if_pos]
  | m + 1, n, k, hk => by
    have nb := hn k (by omega)
    have d0 := h0 k (by omega)
    have dk : d k < 16 := by rw [← nb]; exact Nat.mod_lt _ (by omega)
    have ih := x_lines_l (N := N) (t := t) (M := M) hB hn hU h0 m n (k + 1) (by omega)
    rw [show n + (m + 1) + 1 = (n + m + 1) + 1 by omega, xX1_linesHeld_18.eq_2]
    simp (disch := omega) only [e_gd, e_ix, e_oli2, e_oml2, e_obi2, e_obv2, e_add, e_mul, e_sub, e_eq, e_lt, e_le, e_eq0, e_0eq, e_lt0, e_0lt, e_le0, e_0le, e_m1, e_m1', e_m1lt, Nat.add_assoc, Nat.not_lt_zero, Nat.le_zero_eq, e_us, e_and, n_m15, p16, nb]
    rw [if_neg (by omega), show n + (m + 1) = n + m + 1 from rfl]
    by_cases c0 : U ≤ k
    · rw [if_pos (d0.2 c0), Nat.min_eq_right c0]
      rw [Nat.min_eq_right (by omega)] at ih
      exact ih
    · rw [if_neg (fun h => c0 (d0.1 h)), Nat.min_eq_left (by omega)]
      rw [Nat.min_eq_left (by omega)] at ih
      exact ih
theorem ud_0 {S : a_S} (c k : Nat) : ud S c k = 0 ↔ S 238 c ≤ k := by
  unfold ud
  split <;> omega
theorem x_lines {N : j_M} {t c : Nat} {S : a_S} (h : RG S) (hc : c < 6) : xX1_linesHeld t (nI c) (XS N t S) = some (nI (S 238 c), XS N t S) := by
  have hb := bk_le c
  have h8 := g_8 h 238 c (Or.inl rfl)
  have e := x_lines_l (N := N) (t := t) (M := XS N t S) (uo_lt h c) (uo_nib h c) h8 (fun k _ => ud_0 c k) 8 999991 0 (by omega)
  rw [Nat.zero_min] at e
  unfold xX1_linesHeld
  rw [x_blk (by omega), e_obi2]
  simp (disch := omega) only [e_gd, e_ix, e_oli2, e_oml2, e_obi2, e_obv2, e_add, e_mul, e_sub, e_eq, e_lt, e_le, e_eq0, e_0eq, e_lt0, e_0lt, e_le0, e_0le, e_m1, e_m1', e_m1lt, Nat.add_assoc, Nat.not_lt_zero, Nat.le_zero_eq, Nat.reduceAdd, xr_4, xr_5, xr_6, xr_7, xr_13, xr_14, xr_3, xr_10, xr_11, xr_12, xr_15, xr_16, xr_17, xr_18, xr_19, xr_0_8, xr_0_9, xr_0_10, xr_0_11, xr_0_12, xr_0_13, xr_0_14, xr_8_11, xr_8_12, xr_8_13, xr_8_14, xr_h, xr_e, xr_u, xr_m, xr_2, xr_9]
  rw [fu_s 9 (by omega), show 1000000 - 9 + 9 = 999991 + 8 + 1 by omega]
  exact e
theorem x_take {N : j_M} {t nd f l mn ow wi cgo : Nat} {S : a_S} {hh h' : Nat → Nat} (ht : t ≠ 0) (hi : INV S hh) (hd : nd < 7) (hN : nd < S 1 0 ∨ nd = 6) (hf : f < 7) (hl : l < 8) (hne : f ≠ nd) (h9 : S 6961 0 < 2147482000) (ho : ow < 2) (hw : wi ≤ 10000) (hm1 : 1 ≤ mn) (hm2 : mn ≤ 12) (hx : ∀ x, hh x = h' x + if l = x then mn else 0) (hcg : cgo = mn + 16 * ow + 32 * wi) : xX1_takeTokens t (nI f) (nI nd) (nI l) (nI cgo) (XS N t S) = some (XS N t (a_comes S nd f l mn ow wi)) := by
  have hb := bk_le nd
  have hq := INV_q hi
  have hxl := hx l
  rw [if_pos rfl] at hxl
  have hT := TK_le hi hd hl
  have hTT := g_T hi.1
  unfold xX1_takeTokens a_comes
  rw [x_rem ht hd hf hl, e_obv2, x_blk hd, e_obi2, f_eq (by omega) (by omega)]
  unfold xX1_takeTokens_43
  by_cases h6 : nd = 6
  · rw [if_pos h6, if_pos h6, if_pos h6]
    unfold xX1_takeTokens_44
    rw [f_eq0 (by omega), if_pos rfl, e_add, x_118 ht hi.1 hi.2.1 hi.2.2.2.2.2.2.2.1 (by omega) hd hl (by omega) (fun h => (hi.2.2.2.2.2.2.2.2.2.1 nd h).2.1) (by omega) ho hw (by omega) (by omega) hcg, if_neg (by omega)]
  · rw [if_neg h6, if_neg h6, if_neg h6]
    have i1 := INV_rem (l := l) hi (show nd < 6 by omega) hf hl hne
    have hN1 : nd < a_rem S nd f l 1 0 := by rw [re_o (by omega)]; omega
    have q1 : a_rem S nd f l 1 7 ≤ 228 := INV_q i1
    have t1 : a_rem S nd f l 6961 0 < 2147482000 := by rw [re_o (by omega)]; exact h9
    have hT1 := TK_le i1 hd hl
    have hTT1 := g_T i1.1
    generalize a_rem S nd f l = R at *
    have g := g_hv i1.1 (8 * nd + l)
    have sc := i1.2.2.2.2.2.2.1
    unfold SC at sc
    have h8 := g_8 i1.1 238 nd (Or.inl rfl)
    have hroom : R 1 2 ≤ 8 := (i1.1 1 2).1 rfl |>.2.2.1 rfl
    have hms := i1.2.2.2.2.2.2.2.1
    have gmv := g_mv i1.1 nd
    have hti := i1.2.2.2.2.2.2.2.2.2.1
    have e118 := x_118 (N := N) (t := t) (fi := 1) ht i1.1 i1.2.1 hms (by omega) hd hl (by omega) (fun h => (hti nd h).2.1) (by omega) ho hw (by omega) (fun _ => by omega) hcg
    simp (disch := omega) only [e_gd, e_ix, e_oli2, e_oml2, e_obi2, e_obv2, e_add, e_mul, e_sub, e_eq, e_lt, e_le, e_eq0, e_0eq, e_lt0, e_0lt, e_le0, e_0le, e_m1, e_m1', e_m1lt, Nat.add_assoc, Nat.not_lt_zero, Nat.le_zero_eq, Nat.reduceAdd, xr_4, xr_5, xr_6, xr_7, xr_13, xr_14, xr_3, xr_10, xr_11, xr_12, xr_15, xr_16, xr_17, xr_18, xr_19, xr_0_8, xr_0_9, xr_0_10, xr_0_11, xr_0_12, xr_0_13, xr_0_14, xr_8_11, xr_8_12, xr_8_13, xr_8_14, xr_h, xr_e, xr_u, xr_m, xr_2, xr_9, hc_ i1.1]
    unfold a_c82 a_c178
    by_cases hc0 : R 14 (8 * nd + l) = 0
    · rw [if_pos hc0]
      unfold xX1_takeTokens_44
      rw [f_eq0 (by omega), if_neg (by omega), x_lines i1.1 (by omega), e_obi2]
      simp (disch := omega) only [e_gd, e_ix, e_oli2, e_oml2, e_obi2, e_obv2, e_add, e_mul, e_sub, e_eq, e_lt, e_le, e_eq0, e_0eq, e_lt0, e_0lt, e_le0, e_0le, e_m1, e_m1', e_m1lt, Nat.add_assoc, Nat.not_lt_zero, Nat.le_zero_eq, Nat.reduceAdd, xr_4, xr_5, xr_6, xr_7, xr_13, xr_14, xr_3, xr_10, xr_11, xr_12, xr_15, xr_16, xr_17, xr_18, xr_19, xr_0_8, xr_0_9, xr_0_10, xr_0_11, xr_0_12, xr_0_13, xr_0_14, xr_8_11, xr_8_12, xr_8_13, xr_8_14, xr_h, xr_e, xr_u, xr_m, xr_2, xr_9, x_missed i1.1 hms (show nd < 6 by omega), oI_eq]
      by_cases hr : R 238 nd < R 1 2
      · have hA : ¬ (R 14 (8 * nd + l) = 0 ∧ R 1 2 ≤ R 238 nd) := by omega
        rw [if_pos hr, if_neg hA, if_pos hc0, e118, if_pos rfl]
      · have hA : R 14 (8 * nd + l) = 0 ∧ R 1 2 ≤ R 238 nd := by omega
        rw [if_neg hr, if_pos hA]
        by_cases h3 : R 292 nd = l + 1
        · have u0 := (i1.2.2.1 nd (by omega)).1 0 (by omega)
          rw [Nat.add_zero] at u0
          have ne : R 244 (8 * nd) ≠ l := by
            intro e
            rw [e] at u0
            exact u0 hc0
          have el : a_eld R nd l = R 244 (8 * nd) := by
            unfold a_eld
            rw [if_neg ne]
          have l8 := g_l i1.1 244 (8 * nd) (Or.inl rfl)
          have nb : uo R nd % 16 = R 244 (8 * nd) + 1 := by
            have := uo_nib i1.1 nd 0 (by omega)
            rw [Nat.pow_zero, Nat.div_one] at this
            rw [this]
            unfold ud
            rw [if_pos (by omega)]
            rfl
          have i2 := INV_evicts i1 hN1 l8 u0
          have ev := x_evictLine (N := N) (t := t) (l := R 244 (8 * nd)) ht i1.1 i1.2.1 (by omega) (show nd < 6 by omega) l8 (by omega)
          have c2 : a_evicts R nd (R 244 (8 * nd)) 14 (8 * nd + l) = R 14 (8 * nd + l) := ev_p (by omega) (by omega)
          have hT2 := TK_le i2 hd hl
          have q2 := ev_7 (S := R) (c := nd) (l := R 244 (8 * nd))
          have t2 := ev_t (S := R) (c := nd) (l := R 244 (8 * nd))
          have e2 := x_118 (N := N) (t := t) (fi := 1) ht i2.1 i2.2.1 i2.2.2.2.2.2.2.2.1 (by omega) hd hl (by omega) (fun h => (i2.2.2.2.2.2.2.2.2.2.1 nd h).2.1) (by omega) ho hw (by omega) (fun _ => by omega) hcg
          rw [if_pos h3, if_pos h3, e_and, n_m15, nb, e_sub (by omega), Nat.add_sub_cancel, ev, e_obv2, el, e2, if_pos rfl, if_pos (by omega)]
        · have hn := x_note (N := N) (t := t) (w := 5) (c := nd) (l := l) (tk := R 1 5) (S := R) ht (by omega) (by omega) hl rfl (g_tk i1.1) (by omega)
          have hp := x_post (N := N) (t := t) (f := nd) (to := 6) (k := 3) (l := l) (mn := mn) (ow := ow) (wi := wi) (nt := 0) (wh := 0) (cgo := cgo) (S := a_notes R 5 nd l) ht (by rw [an_o (by omega)]; omega) hd (by omega) (by omega) (by omega) hl (by omega) ho hw (by omega) (by omega) (fun _ => ⟨rfl, rfl⟩) (fun h => absurd rfl h) (by omega)
          rw [if_neg h3, if_neg h3, hn, e_obv2, hp, e_obv2]
    · have hA : ¬ (R 14 (8 * nd + l) = 0 ∧ R 1 2 ≤ R 238 nd) := by omega
      have e0 := x_118 (N := N) (t := t) (fi := 0) ht i1.1 i1.2.1 hms (by omega) hd hl (by omega) (fun h => (hti nd h).2.1) (by omega) ho hw (by omega) (by omega) hcg
      unfold xX1_takeTokens_44
      rw [if_neg hc0, if_neg hA, if_neg hc0, f_eq0 (by omega), if_pos rfl, e0, if_neg (by omega)]
theorem se5_k {S : a_S} {i l nt w : Nat} : se5 S i 1 0 w l nt = sw (sw (sw (sw (sw S 316 i nt) 358 i 1) 400 i l) 442 i w) 484 i 0 := rfl
theorem se5_r {S : a_S} {i nt : Nat} : se5 S i 0 0 (S 442 i) (S 400 i) nt = sw (sw (sw S 316 i nt) 358 i 0) 484 i 0 := by
  unfold se5
  rw [sw_same (r := 442) (by simp (disch := omega) only [sw_r]), sw_same (r := 400) (by simp (disch := omega) only [sw_r])]
theorem x_asked {N : j_M} {t nd f l nt wh cgo : Nat} {S : a_S} (ht : t ≠ 0) (h : RG S) (hu : UD S) (hq : S 1 7 < 240) (hd : nd < 7) (hf : f < 6) (hl : l < 8) (hn : nt ≤ 10100) (hw : wh < 4) (hcg : cgo = wh + 4 * nt) : xX1_heedForGood t (nI f) (nI nd) (nI l) (nI cgo) (XS N t S) = some (XS N t (a_asked S nd f l nt wh)) := by
  have hb := bk_le nd
  have g := g_ev h (6 * nd + f)
  have es := x_settle (N := N) (t := t) (S := a_asked1 S nd f l nt wh) ht (RG_asked1 h hl hn hw) (UD_c hu (fun i => ak1_o (by omega)) (fun i => ak1_o (by omega))) (by rw [ak1_o (by omega)]; exact hq) hd hl
  have w := xw_e (N := N) (t := t) (n := nd) (c := f) (a := 1) (m := 0) (w := wh) (l := l) (s := nt) (S := S) ht hd hf
  have e1 : cgo / 2 ^ 2 = nt := by omega
  have e2 : cgo &&& 3 = wh := by rw [n_m3]; omega
  unfold xX1_heedForGood a_asked
  rw [x_blk hd, e_obi2]
  simp (disch := omega) only [e_gd, e_ix, e_oli2, e_oml2, e_obi2, e_obv2, e_add, e_mul, e_sub, e_eq, e_lt, e_le, e_eq0, e_0eq, e_lt0, e_0lt, e_le0, e_0le, e_m1, e_m1', e_m1lt, Nat.add_assoc, Nat.not_lt_zero, Nat.le_zero_eq, Nat.reduceAdd, xr_4, xr_5, xr_6, xr_7, xr_13, xr_14, xr_3, xr_10, xr_11, xr_12, xr_15, xr_16, xr_17, xr_18, xr_19, xr_0_8, xr_0_9, xr_0_10, xr_0_11, xr_0_12, xr_0_13, xr_0_14, xr_8_11, xr_8_12, xr_8_13, xr_8_14, xr_h, xr_e, xr_u, xr_m, xr_2, xr_9, e_us, e1, es_ h, e_and, e2, v_active hw hl (show nt ≤ 10101 by omega), w]
  by_cases c1 : nt ≤ S 316 (6 * nd + f)
  · rw [if_pos c1, if_pos c1]
  · rw [if_neg c1, if_neg c1]
    unfold a_asked1 at es ⊢
    rw [se5_k, es, e_obv2]
theorem er_ {S : a_S} {i s' : Nat} {M : j_M} (h : RG S) (hs : s' ≤ 10100) : xX2_recalled (nI (ev S i)) (nI s') M = some (nI (evv 0 0 (S 442 i) (S 400 i) s'), M) := v_recall (g_ev h i).1 (g_ev h i).2.1 (g_ev h i).2.2.1 (g_ev h i).2.2.2.1 (g_ev h i).2.2.2.2 hs
theorem x_reca {N : j_M} {t nd f l nt cgo : Nat} {S : a_S} (ht : t ≠ 0) (h : RG S) (hu : UD S) (hq : S 1 7 < 240) (hd : nd < 7) (hf : f < 6) (hl : l < 8) (hn : nt ≤ 10100) (hcg : cgo = 4 * nt) : xX1_heedRecall t (nI f) (nI nd) (nI l) (nI cgo) (XS N t S) = some (XS N t (a_reca S nd f l nt)) := by
  have hb := bk_le nd
  have g := g_ev h (6 * nd + f)
  have es := x_settle (N := N) (t := t) (S := a_reca1 S nd f nt) (nd := nd) (l := l) ht (RG_reca1 h hn) (UD_c hu (fun i => rc1_o (by omega)) (fun i => rc1_o (by omega))) (by rw [rc1_o (by omega)]; exact hq) hd hl
  have w := xw_e (N := N) (t := t) (n := nd) (c := f) (a := 0) (m := 0) (w := S 442 (6 * nd + f)) (l := S 400 (6 * nd + f)) (s := nt) (S := S) ht hd hf
  have e1 : cgo / 2 ^ 2 = nt := by omega
  unfold xX1_heedRecall a_reca
  rw [x_blk hd, e_obi2]
  simp (disch := omega) only [e_gd, e_ix, e_oli2, e_oml2, e_obi2, e_obv2, e_add, e_mul, e_sub, e_eq, e_lt, e_le, e_eq0, e_0eq, e_lt0, e_0lt, e_le0, e_0le, e_m1, e_m1', e_m1lt, Nat.add_assoc, Nat.not_lt_zero, Nat.le_zero_eq, Nat.reduceAdd, xr_4, xr_5, xr_6, xr_7, xr_13, xr_14, xr_3, xr_10, xr_11, xr_12, xr_15, xr_16, xr_17, xr_18, xr_19, xr_0_8, xr_0_9, xr_0_10, xr_0_11, xr_0_12, xr_0_13, xr_0_14, xr_8_11, xr_8_12, xr_8_13, xr_8_14, xr_h, xr_e, xr_u, xr_m, xr_2, xr_9, e_us, e1, es_ h, er_ h hn, w]
  by_cases c1 : nt < S 316 (6 * nd + f)
  · rw [if_pos c1, if_pos c1]
  · rw [if_neg c1, if_neg c1]
    unfold a_reca1 at es ⊢
    rw [se5_r, es, e_obv2]
theorem rm_sh {S : a_S} {i : Nat} : sw (a_sh (sw S 1 7 (S 1 7 - 1)) (9 * i)) 1 13 (S 1 13 + 1) = a_rm S i := by
  funext r j
  unfold a_sh a_rm
  rw [sw_at]
  by_cases h5 : r = 586
  · subst h5
    rw [sw_r (by omega), if_pos rfl]
    by_cases c : 9 * i ≤ j ∧ j < 9 * (S 1 7 - 1)
    · rw [if_pos ⟨rfl, c⟩, if_pos c, sw_r (by omega)]
    · rw [if_neg (fun e => c e.2), if_neg c, sw_r (by omega)]
  · by_cases h2 : r = 1
    · subst h2
      rw [if_neg h5, if_pos rfl]
      by_cases h13 : j = 13
      · subst h13
        rw [sw_at, if_neg (by omega), if_pos rfl]
      · rw [sw_i h13, if_neg (fun e => h5 e.1)]
        by_cases h7 : j = 7
        · subst h7
          rw [sw_at, if_pos rfl]
        · rw [sw_i h7, if_neg h7, if_neg h13]
    · rw [sw_r h2, if_neg (fun e => h5 e.1), sw_r h2, if_neg h5, if_neg h2]
theorem x_cp {N : j_M} {t i : Nat} {S : a_S} (ht : t ≠ 0) (hi : i ≤ S 1 7) (hq : S 1 7 < 240) : mcp (XS N t S) (t + 2) (i + 1) (t + 2) i (S 1 7 - i) = XS N t (a_sh S (9 * i)) := by
  have sh : ∀ j x, x < 9 → fd (a_sh S (9 * i)) j x = if i ≤ j ∧ j < S 1 7 then fd S (j + 1) x else fd S j x := by
    intro j x hx
    unfold fd a_sh
    by_cases c : i ≤ j ∧ j < S 1 7
    · rw [if_pos (by omega), if_pos c, show 9 * j + x + 9 = 9 * (j + 1) + x by omega]
    · rw [if_neg (by omega), if_neg c]
  funext x j
  unfold mcp
  by_cases hx : x = t + 2 ∧ x ≠ 0
  · obtain ⟨rfl, _⟩ := hx
    rw [if_pos ⟨rfl, by omega⟩]
    by_cases hj : j < 240
    · rw [xr_2 hj (S := a_sh S (9 * i))]
      by_cases c : i ≤ j ∧ j < S 1 7
      · rw [if_pos (by omega), show i + 1 + (j - i) = j + 1 by omega, xr_2 (by omega), lcv_c (g := fd S (j + 1)) (g' := fd (a_sh S (9 * i)) j) (fun y hy => by rw [sh j y hy, if_pos c])]
      · rw [if_neg (by omega), xr_2 hj, lcv_c (g := fd S j) (g' := fd (a_sh S (9 * i)) j) (fun y hy => by rw [sh j y hy, if_neg c])]
    · rw [if_neg (by omega)]
      have e : ∀ T : a_S, XS N t T (t + 2) j = N (t + 2) j := by
        intro T
        unfold XS
        rw [Nat.add_sub_cancel_left, if_neg (fun e => hj e.2.2.2)]
      rw [e, e]
  · have e : (if x = t + 2 ∧ x ≠ 0 then (if i ≤ j ∧ j < i + (S 1 7 - i) then XS N t S (t + 2) (i + 1 + (j - i)) else XS N t S x j) else XS N t S x j) = XS N t S x j := if_neg hx
    rw [e]
    unfold XS
    by_cases hr : t ≤ x ∧ x < t + 20 ∧ cl (x - t) ≤ j ∧ j < ch (x - t)
    · rw [if_pos hr, if_pos hr]
      refine (cv_c (by omega) (fun r y hc => ?_)).symm
      unfold a_sh
      rw [if_neg]
      rintro ⟨rfl, _⟩
      simp only [cu, cu1, Nat.reduceEqDiff, false_and, and_false, or_false, false_or, true_and] at hc
      omega
    · rw [if_neg hr, if_neg hr]
theorem lc_fd {N : Nat} {g : Nat → Nat} (h : VMf N g) : lcv g = lvv (g 0) (g 1) (g 2) (g 3) (cgv g) := by
  unfold lcv
  rw [if_neg (by have := h.1; omega)]
theorem x_del {N : j_M} {t i : Nat} {S : a_S} (ht : t ≠ 0) (hi : INV S z0) (hlt : i < S 1 7) (h9 : S 6961 0 < 2147482000) : xX1_deliverAt t (nI i) (XS N t S) = some (nI (S 586 (9 * i + 2)), XS N t (a_del S i)) := by
  have hq := INV_q hi
  have g := g_f hi.1 i
  have v := hi.2.2.2.1 i hlt
  have lc := lc_fd v
  unfold VMf at v
  have f0 : fd S i 0 = S 586 (9 * i) := rfl
  have f1 : fd S i 1 = S 586 (9 * i + 1) := rfl
  have f2 : fd S i 2 = S 586 (9 * i + 2) := rfl
  have f3 : fd S i 3 = S 586 (9 * i + 3) := rfl
  have f4 : fd S i 4 = S 586 (9 * i + 4) := rfl
  have f5 : fd S i 5 = S 586 (9 * i + 5) := rfl
  have f6 : fd S i 6 = S 586 (9 * i + 6) := rfl
  have f7 : fd S i 7 = S 586 (9 * i + 7) := rfl
  have f8 : fd S i 8 = S 586 (9 * i + 8) := rfl
  unfold cgv at lc
  rw [f0, f1, f2, f3, f4, f5, f6, f7, f8] at lc
  rw [f0, f1, f2, f4, f5, f6, f7, f8] at v
  generalize hcg : S 586 (9 * i + 4) + 16 * S 586 (9 * i + 5) + 32 * S 586 (9 * i + 6) + S 586 (9 * i + 8) + 4 * S 586 (9 * i + 7) = cgo at lc
  have hcb : cgo < 524288 := by omega
  have cp := x_cp (N := N) (t := t) (i := i) (S := sw S 1 7 (S 1 7 - 1)) ht (by rw [sw_at]; omega) (by rw [sw_at]; omega)
  rw [sw_at] at cp
  have s13 : a_sh (sw S 1 7 (S 1 7 - 1)) (9 * i) 1 13 = S 1 13 := by
    unfold a_sh
    rw [if_neg (by omega), sw_i (by omega)]
  have e0 : S 586 (9 * i + 2) ≠ 3 → INV (a_rm S i) z0 := by
    intro hk
    refine INV_rm hi hlt (fun x => ?_)
    have := (v.2.2.2.1 hk).1
    unfold wt
    rw [f4, this]
    split <;> rfl
  have n0 : a_rm S i 1 0 = S 1 0 := rm_1 (by omega)
  have n7 : a_rm S i 1 7 = S 1 7 - 1 := rm_7
  have n9 : a_rm S i 6961 0 = S 6961 0 := rm_q (by omega)
  unfold xX1_deliverAt
  simp (disch := omega) only [e_gd, e_ix, e_oli2, e_oml2, e_obi2, e_obv2, e_add, e_mul, e_sub, e_eq, e_lt, e_le, e_eq0, e_0eq, e_lt0, e_0lt, e_le0, e_0le, e_m1, e_m1', e_m1lt, Nat.add_assoc, Nat.not_lt_zero, Nat.le_zero_eq, Nat.reduceAdd, xr_4, xr_5, xr_6, xr_7, xr_13, xr_14, xr_3, xr_10, xr_11, xr_12, xr_15, xr_16, xr_17, xr_18, xr_19, xr_0_8, xr_0_9, xr_0_10, xr_0_11, xr_0_12, xr_0_13, xr_0_14, xr_8_11, xr_8_12, xr_8_13, xr_8_14, xr_h, xr_e, xr_u, xr_m, xr_2, xr_9, lc, l_from, l_to, l_line, l_kind, l_cargo, xw_4, xw_5, xw_6, xw_7, xw_13, xw_14, xw_3, xm_3, xw_10, xw_11, xw_12, xw_15, xw_16, xw_17, xw_18, xw_19, xw_0_8, xw_0_9, xw_0_10, xw_0_11, xw_0_12, xw_0_13, xw_0_14, xw_8_11, xw_8_12, xw_8_13, xw_8_14, xw_h, xw_e, sw_at, e_gc, cp, s13, rm_sh, e_osw, e_osw0]
  unfold a_del
  by_cases k1 : S 586 (9 * i + 2) = 1
  · have q := v.2.2.2.1 (by omega)
    have e := x_answer (N := N) (t := t) (nd := S 586 (9 * i + 1)) (f := S 586 (9 * i)) (l := S 586 (9 * i + 3)) (w := 0) (S := a_rm S i) ht (e0 (by omega)).1 (e0 (by omega)).2.1 (by omega) g.2.1 q.2.2.2 g.2.2.2.1 (by omega)
    rw [if_pos k1, if_pos k1, k1, e, e_obv2]
  · rw [if_neg k1, if_neg k1]
    by_cases k2 : S 586 (9 * i + 2) = 2
    · have q := v.2.2.2.1 (by omega)
      have e := x_answer (N := N) (t := t) (nd := S 586 (9 * i + 1)) (f := S 586 (9 * i)) (l := S 586 (9 * i + 3)) (w := 1) (S := a_rm S i) ht (e0 (by omega)).1 (e0 (by omega)).2.1 (by omega) g.2.1 q.2.2.2 g.2.2.2.1 (by omega)
      rw [if_pos k2, if_pos k2, k2, e, e_obv2]
    · rw [if_neg k2, if_neg k2]
      by_cases k3 : S 586 (9 * i + 2) = 3
      · have q := v.2.2.1 k3
        have i1 : INV (a_rm S i) (fun x => wt x (fd S i)) := INV_rm hi hlt (fun x => by show _ = 0 + _; omega)
        have e := x_take (N := N) (t := t) (nd := S 586 (9 * i + 1)) (f := S 586 (9 * i)) (l := S 586 (9 * i + 3)) (mn := S 586 (9 * i + 4)) (ow := S 586 (9 * i + 5)) (wi := S 586 (9 * i + 6)) (cgo := cgo) (h' := z0) ht i1 g.2.1 (by omega) g.1 g.2.2.2.1 (by omega) (by omega) g.2.2.2.2.2.1 g.2.2.2.2.2.2.1 q.1 g.2.2.2.2.1 (fun x => by
          show (if fd S i 3 = x then fd S i 4 else 0) = 0 + _
          rw [f3, f4]; omega) (by omega)
        rw [if_pos k3, if_pos k3, k3, e, e_obv2]
      · rw [if_neg k3, if_neg k3]
        by_cases k4 : S 586 (9 * i + 2) = 4
        · have q := v.2.2.2.1 (by omega)
          have e := x_asked (N := N) (t := t) (nd := S 586 (9 * i + 1)) (f := S 586 (9 * i)) (l := S 586 (9 * i + 3)) (nt := S 586 (9 * i + 7)) (wh := S 586 (9 * i + 8)) (cgo := cgo) (S := a_rm S i) ht (e0 (by omega)).1 (e0 (by omega)).2.1 (by omega) g.2.1 q.2.2.2 g.2.2.2.1 g.2.2.2.2.2.2.2.1 g.2.2.2.2.2.2.2.2 (by omega)
          rw [if_pos k4, if_pos k4, k4, e, e_obv2]
        · have q := v.2.2.2.1 (by omega)
          have e := x_reca (N := N) (t := t) (nd := S 586 (9 * i + 1)) (f := S 586 (9 * i)) (l := S 586 (9 * i + 3)) (nt := S 586 (9 * i + 7)) (cgo := cgo) (S := a_rm S i) ht (e0 (by omega)).1 (e0 (by omega)).2.1 (by omega) g.2.1 q.2.2.2 g.2.2.2.1 g.2.2.2.2.2.2.2.1 (by omega)
          rw [if_neg k4, if_neg k4, e, e_obv2]
