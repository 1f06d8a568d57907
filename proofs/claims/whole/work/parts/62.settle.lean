/-! ===== the class: turns, settling, answers ===== -/
theorem sw_comm {S : a_S} {r i v r' i' v' : Nat} (h : ¬ (r = r' ∧ i = i')) : sw (sw S r i v) r' i' v' = sw (sw S r' i' v') r i v := by
  funext x j
  unfold sw
  (repeat' split) <;> first | rfl | (exfalso; omega)
theorem g_ev {S : a_S} (h : RG S) (i : Nat) : S 358 i < 2 ∧ S 484 i < 2 ∧ S 442 i < 4 ∧ S 400 i < 8 ∧ S 316 i ≤ 10100 := ⟨g_b h 358 i (by omega), g_b h 484 i (by omega), g_4 h 442 i (by omega), g_l h 400 i (by omega), g_t h 316 i (by omega)⟩
theorem x_turn_l {N : j_M} {t nd l : Nat} {S : a_S} (h : RG S) (hd : nd < 7) (hl : l < 8) : ∀ (m n k : Nat), k + m = S 1 0 → xX1_turnAt_11 t (n + m + 1) (nI l) (nI (bk nd + 8)) (nI k) (XS N t S) = some (oI (fr (fun c => S 358 (6 * nd + c) = 1 ∧ S 400 (6 * nd + c) = l) m k), XS N t S)
  | 0, n, k, hk => by
    have hn := g_n h
    rw [show n + 0 + 1 = n + 1 from rfl, xX1_turnAt_11.eq_2]
    simp (disch := omega) only [e_gd, e_ix, e_oli2, e_oml2, e_obi2, e_obv2, e_add, e_mul, e_sub, e_eq, e_lt, e_le, e_eq0, e_0eq, e_lt0, e_0lt, e_le0, e_0le, e_m1, e_m1', e_m1lt, Nat.add_assoc, Nat.not_lt_zero, Nat.le_zero_eq, Nat.reduceAdd, xr_4, xr_5, xr_6, xr_7, xr_13, xr_14, xr_3, xr_10, xr_11, xr_12, xr_15, xr_16, xr_17, xr_18, xr_19, xr_0_8, xr_0_9, xr_0_10, xr_0_11, xr_0_12, xr_0_13, xr_0_14, xr_8_11, xr_8_12, xr_8_13, xr_8_14, xr_h, xr_e, xr_u, xr_m, xr_2, xr_9, if_pos]
    rfl
  | m + 1, n, k, hk => by
    have hn := g_n h
    have hb := bk_le nd
    have g := g_ev h (6 * nd + k)
    rw [show n + (m + 1) + 1 = (n + m + 1) + 1 by omega, xX1_turnAt_11.eq_2]
    simp (disch := omega) only [e_gd, e_ix, e_oli2, e_oml2, e_obi2, e_obv2, e_add, e_mul, e_sub, e_eq, e_lt, e_le, e_eq0, e_0eq, e_lt0, e_0lt, e_le0, e_0le, e_m1, e_m1', e_m1lt, Nat.add_assoc, Nat.not_lt_zero, Nat.le_zero_eq, Nat.reduceAdd, xr_4, xr_5, xr_6, xr_7, xr_13, xr_14, xr_3, xr_10, xr_11, xr_12, xr_15, xr_16, xr_17, xr_18, xr_19, xr_0_8, xr_0_9, xr_0_10, xr_0_11, xr_0_12, xr_0_13, xr_0_14, xr_8_11, xr_8_12, xr_8_13, xr_8_14, xr_h, xr_e, xr_u, xr_m, xr_2, xr_9]
    unfold ev
    rw [if_neg (by omega), v_act g.1 g.2.1 g.2.2.1 g.2.2.2.1 g.2.2.2.2 hl, e_obi2, show n + (m + 1) = n + m + 1 from rfl, x_turn_l h hd hl m n (k + 1) (by omega), fr_s]
    by_cases h1 : S 358 (6 * nd + k) = 1 ∧ S 400 (6 * nd + k) = l
    · rw [if_pos h1, if_pos h1, if_neg (by decide)]
      rfl
    · rw [if_neg h1, if_neg h1, if_pos (by decide)]
theorem x_turn {N : j_M} {t nd l : Nat} {S : a_S} (h : RG S) (hd : nd < 7) (hl : l < 8) : xX1_turnAt t (nI nd) (nI l) (XS N t S) = some (oI (a_turn S nd l), XS N t S) := by
  have hn := g_n h
  have e := x_turn_l (N := N) (t := t) h hd hl (S 1 0) (1000000 - (S 1 0 + 1)) 0 (by omega)
  unfold xX1_turnAt a_turn
  rw [x_blk hd, e_obi2, e_add, fu_s (S 1 0 + 1) (by omega), ← Nat.add_assoc, e]
theorem x_held {N : j_M} {t nd l : Nat} {S : a_S} (hd : nd < 7) (hl : l < 8) : xX1_heldAt t (nI nd) (nI l) (XS N t S) = some (nI (hv S (8 * nd + l)), XS N t S) := by
  have hb := bk_le nd
  unfold xX1_heldAt
  rw [x_blk hd, e_obi2]
  simp (disch := omega) only [e_gd, e_ix, e_oli2, e_oml2, e_obi2, e_obv2, e_add, e_mul, e_sub, e_eq, e_lt, e_le, e_eq0, e_0eq, e_lt0, e_0lt, e_le0, e_0le, e_m1, e_m1', e_m1lt, Nat.add_assoc, Nat.not_lt_zero, Nat.le_zero_eq, Nat.reduceAdd, xr_4, xr_5, xr_6, xr_7, xr_13, xr_14, xr_3, xr_10, xr_11, xr_12, xr_15, xr_16, xr_17, xr_18, xr_19, xr_0_8, xr_0_9, xr_0_10, xr_0_11, xr_0_12, xr_0_13, xr_0_14, xr_8_11, xr_8_12, xr_8_13, xr_8_14, xr_h, xr_e, xr_u, xr_m, xr_2, xr_9]
theorem x_entry {N : j_M} {t nd c : Nat} {S : a_S} (hd : nd < 7) (hc : c < 6) : xX1_entryAt t (nI nd) (nI c) (XS N t S) = some (nI (ev S (6 * nd + c)), XS N t S) := by
  have hb := bk_le nd
  unfold xX1_entryAt
  rw [x_blk hd, e_obi2]
  simp (disch := omega) only [e_gd, e_ix, e_oli2, e_oml2, e_obi2, e_obv2, e_add, e_mul, e_sub, e_eq, e_lt, e_le, e_eq0, e_0eq, e_lt0, e_0lt, e_le0, e_0le, e_m1, e_m1', e_m1lt, Nat.add_assoc, Nat.not_lt_zero, Nat.le_zero_eq, Nat.reduceAdd, xr_4, xr_5, xr_6, xr_7, xr_13, xr_14, xr_3, xr_10, xr_11, xr_12, xr_15, xr_16, xr_17, xr_18, xr_19, xr_0_8, xr_0_9, xr_0_10, xr_0_11, xr_0_12, xr_0_13, xr_0_14, xr_8_11, xr_8_12, xr_8_13, xr_8_14, xr_h, xr_e, xr_u, xr_m, xr_2, xr_9]
theorem g_hv {S : a_S} (h : RG S) (i : Nat) : S 14 i < 16 ∧ S 70 i < 2 ∧ S 126 i < 2 ∧ S 182 i < 10000 := ⟨by have := g_14 h i; omega, g_b h 70 i (by omega), g_b h 126 i (by omega), g_d h 182 i (by omega)⟩
theorem hc_ {S : a_S} {i : Nat} {M : j_M} (h : RG S) : xX3_count (nI (hv S i)) M = some (nI (S 14 i), M) := h_count (g_hv h i).1
theorem ho_ {S : a_S} {i : Nat} {M : j_M} (h : RG S) : xX3_isOwner (nI (hv S i)) M = some (nI (S 70 i), M) := h_own (g_hv h i).1 (g_hv h i).2.1
theorem hl_ {S : a_S} {i : Nat} {M : j_M} (h : RG S) : xX3_isValid (nI (hv S i)) M = some (nI (S 126 i), M) := h_val (g_hv h i).1 (g_hv h i).2.1 (g_hv h i).2.2.1
theorem hd_ {S : a_S} {i : Nat} {M : j_M} (h : RG S) : xX3_data (nI (hv S i)) M = some (nI (S 182 i), M) := h_data (g_hv h i).1 (g_hv h i).2.1 (g_hv h i).2.2.1 (g_hv h i).2.2.2
theorem ew_ {S : a_S} {i : Nat} {M : j_M} (h : RG S) : xX2_what (nI (ev S i)) M = some (nI (S 442 i), M) := v_what (g_ev h i).1 (g_ev h i).2.1 (g_ev h i).2.2.1 (g_ev h i).2.2.2.1 (g_ev h i).2.2.2.2
theorem es_ {S : a_S} {i : Nat} {M : j_M} (h : RG S) : xX2_seq (nI (ev S i)) M = some (nI (S 316 i), M) := v_seq (g_ev h i).1 (g_ev h i).2.1 (g_ev h i).2.2.1 (g_ev h i).2.2.2.1 (g_ev h i).2.2.2.2
theorem x_handAll {N : j_M} {t nd to l : Nat} {S : a_S} (ht : t ≠ 0) (h : RG S) (hu : UD S) (hq : S 1 7 < 240) (hd : nd < 7) (hto : to < 7) (hl : l < 8) : xX1_hand t (nI nd) (nI to) (nI l) (nI (S 14 (8 * nd + l))) (nI (S 70 (8 * nd + l))) (nI (S 70 (8 * nd + l))) (XS N t S) = some (XS N t (a_givesAll S nd to l)) :=
  x_hand ht h hu hq hd hto hl (g_hv h _).2.1 (g_hv h _).2.1 (Or.inr ⟨rfl, rfl⟩) (fun e => e)
theorem x_settle {N : j_M} {t nd l : Nat} {S : a_S} (ht : t ≠ 0) (h : RG S) (hu : UD S) (hq : S 1 7 < 240) (hd : nd < 7) (hl : l < 8) : xX1_settle t (nI nd) (nI l) (XS N t S) = some (XS N t (a_settles S nd l)) := by
  have hn := g_n h
  have h2 := g_turn (S := S) (nd := nd) (l := l)
  have g := g_hv h (8 * nd + l)
  unfold xX1_settle a_settles
  rw [x_turn h hd hl, e_obi2, x_held hd hl, e_obi2, hc_ h, e_obi2]
  by_cases h0 : a_turn S nd l = 0
  · rw [if_pos (by rw [h0]; rfl), if_pos (Or.inl h0)]
  · obtain ⟨u, hu1⟩ : ∃ u, a_turn S nd l = u + 1 := ⟨a_turn S nd l - 1, by omega⟩
    have gw := (g_ev h (6 * nd + u)).2.2.1
    rw [hu1, oI_s, Nat.add_sub_cancel, f_m1 (by omega), f_eq (by omega) (by omega), f_eq0 (by omega)]
    by_cases h3 : u = nd
    · rw [if_pos h3, if_pos (by omega)]
    · rw [if_neg h3]
      by_cases h4 : S 14 (8 * nd + l) = 0
      · rw [if_pos h4, if_pos (by omega)]
      · have h5 : ¬ (u + 1 = 0 ∨ u + 1 = nd + 1 ∨ S 14 (8 * nd + l) = 0) := by omega
        rw [if_neg h4, if_neg h5, ho_ h, e_obi2, x_entry hd (by omega), e_obi2, ew_ h, e_obi2, f_eq (by omega) (by omega), f_eq0 (by omega), f_le (by omega) (by omega)]
        by_cases h6 : S 442 (6 * nd + u) = 2
        · rw [if_pos h6, if_pos h6, x_handAll ht h hu hq hd (by omega) hl, e_obv2]
        · rw [if_neg h6, if_neg h6]
          by_cases h7 : 1 < S 14 (8 * nd + l)
          · rw [if_pos h7, if_neg (by omega), e_sub (by omega), x_hand ht h hu hq hd (by omega) hl g.2.1 g.2.1 (Or.inl (by omega)) (fun e => e), e_obv2]
          · rw [if_neg h7, if_pos (by omega)]
            by_cases h8 : S 70 (8 * nd + l) = 0
            · rw [if_pos h8, if_pos h8]
            · have e := x_handAll (N := N) (to := u) ht h hu hq hd (by omega) hl
              rw [show S 14 (8 * nd + l) = 1 by omega, show S 70 (8 * nd + l) = 1 by omega] at e
              rw [if_neg h8, if_neg h8, e, e_obv2]
theorem x_rem2 {N : j_M} {t nd f l w : Nat} {S : a_S} (ht : t ≠ 0) (hd : nd < 7) (hf : f < 6) (hl : l < 8) (hw : w < 2) : xX1_remember t (nI nd) (nI f) (nI l) (nI w) (XS N t S) = some (XS N t (a_ans2 S nd f l w)) := by
  unfold xX1_remember a_ans2 a_ans1
  rw [f_eq (by omega) (by omega), f_eq (by omega) (by omega)]
  by_cases h6 : nd = 6
  · rw [if_pos h6, if_pos h6, if_neg (by omega)]
  · unfold xX1_remember_34 xX1_remember_56
    rw [if_neg h6, if_neg (by omega), if_neg h6]
    simp (disch := omega) only [e_gd, e_ix, e_oli2, e_oml2, e_obi2, e_obv2, e_add, e_mul, e_sub, e_eq, e_lt, e_le, e_eq0, e_0eq, e_lt0, e_0lt, e_le0, e_0le, e_m1, e_m1', e_m1lt, Nat.add_assoc, Nat.not_lt_zero, Nat.le_zero_eq, Nat.reduceAdd, xr_4, xr_5, xr_6, xr_7, xr_13, xr_14, xr_3, xr_10, xr_11, xr_12, xr_15, xr_16, xr_17, xr_18, xr_19, xr_0_8, xr_0_9, xr_0_10, xr_0_11, xr_0_12, xr_0_13, xr_0_14, xr_8_11, xr_8_12, xr_8_13, xr_8_14, xr_h, xr_e, xr_u, xr_m, xr_2, xr_9, e_bit, e_or, Nat.mul_comm nd 8, xw_4]
    by_cases hw0 : w = 0
    · rw [if_pos hw0, if_neg (by omega)]
    · rw [if_neg hw0, if_neg (by omega), if_pos (by omega)]
      simp (disch := omega) only [xw_3]
      rw [sw_comm (by omega)]
theorem x_rem {N : j_M} {t nd f l : Nat} {S : a_S} (ht : t ≠ 0) (hd : nd < 7) (hf : f < 7) (hl : l < 8) : xX1_remember t (nI nd) (nI f) (nI l) (nI 1) (XS N t S) = some (XS N t (if nd = 6 then S else a_rem S nd f l)) := by
  unfold xX1_remember a_rem
  rw [f_eq (by omega) (by omega), f_eq (by omega) (by omega)]
  by_cases h6 : nd = 6
  · rw [if_pos h6, if_pos h6]
  · unfold xX1_remember_34 xX1_remember_56
    rw [if_neg h6, if_neg h6]
    by_cases hf6 : f = 6
    · rw [if_pos hf6, if_pos hf6]
      simp (disch := omega) only [e_gd, e_ix, e_oli2, e_oml2, e_obi2, e_obv2, e_add, e_mul, e_sub, e_eq, e_lt, e_le, e_eq0, e_0eq, e_lt0, e_0lt, e_le0, e_0le, e_m1, e_m1', e_m1lt, Nat.add_assoc, Nat.not_lt_zero, Nat.le_zero_eq, Nat.reduceAdd, xr_4, xr_5, xr_6, xr_7, xr_13, xr_14, xr_3, xr_10, xr_11, xr_12, xr_15, xr_16, xr_17, xr_18, xr_19, xr_0_8, xr_0_9, xr_0_10, xr_0_11, xr_0_12, xr_0_13, xr_0_14, xr_8_11, xr_8_12, xr_8_13, xr_8_14, xr_h, xr_e, xr_u, xr_m, xr_2, xr_9, Nat.mul_comm nd 8, xm_3]
      rw [if_neg (by omega), if_pos hf6]
    · rw [if_neg hf6, if_neg hf6]
      simp (disch := omega) only [e_gd, e_ix, e_oli2, e_oml2, e_obi2, e_obv2, e_add, e_mul, e_sub, e_eq, e_lt, e_le, e_eq0, e_0eq, e_lt0, e_0lt, e_le0, e_0le, e_m1, e_m1', e_m1lt, Nat.add_assoc, Nat.not_lt_zero, Nat.le_zero_eq, Nat.reduceAdd, xr_4, xr_5, xr_6, xr_7, xr_13, xr_14, xr_3, xr_10, xr_11, xr_12, xr_15, xr_16, xr_17, xr_18, xr_19, xr_0_8, xr_0_9, xr_0_10, xr_0_11, xr_0_12, xr_0_13, xr_0_14, xr_8_11, xr_8_12, xr_8_13, xr_8_14, xr_h, xr_e, xr_u, xr_m, xr_2, xr_9, e_bit, e_or, Nat.mul_comm nd 8, xw_4, xw_3]
      rw [if_neg (by omega), if_neg hf6, sw_comm (by omega)]
theorem x_answer {N : j_M} {t nd f l w : Nat} {S : a_S} (ht : t ≠ 0) (h : RG S) (hu : UD S) (hq : S 1 7 < 240) (hd : nd < 7) (hf : f < 6) (hl : l < 8) (hw : w < 2) : xX1_answer t (nI f) (nI nd) (nI l) (nI (w + 1)) (XS N t S) = some (XS N t (a_answers S nd f l w)) := by
  have hr2 := RG_ans2 (nd := nd) (f := f) (l := l) (w := w) h hf
  have hu2 : UD (a_ans2 S nd f l w) := UD_c hu (fun i => an2_o (by omega)) (fun i => an2_o (by omega))
  have hq2 : a_ans2 S nd f l w 1 7 < 240 := by rw [an2_o (by omega)]; exact hq
  have g := g_hv hr2 (8 * nd + l)
  have e15 : xX1_answer_15 t (nI f) (nI nd) (nI l) (nI (w + 1)) (nI nd) (nI f) (nI l) (nI w) (XS N t S) = some (XS N t (a_answers S nd f l w)) := by
    unfold xX1_answer_15 a_answers
    rw [x_rem2 ht hd hf hl hw, e_obv2, x_held hd hl, e_obi2, hc_ hr2, e_obi2, ho_ hr2, e_obi2]
    generalize a_ans2 S nd f l w = R at *
    have hn := g_n hr2
    have h2 := g_turn (S := R) (nd := nd) (l := l)
    unfold a_ans3
    rw [f_eq0 (by omega), x_turn hr2 hd hl, e_obi2, f_om1 (by omega), f_eq (by omega) (by omega), f_eq0 (by omega), f_eq (by omega) (by omega)]
    by_cases h0 : R 14 (8 * nd + l) = 0
    · rw [if_pos h0, if_pos (Or.inr h0)]
    · rw [if_neg h0]
      by_cases h1 : a_turn R nd l = 0
      · have hA : ¬ (a_turn R nd l ≠ 0 ∨ R 14 (8 * nd + l) = 0) := by omega
        rw [if_pos h1, if_neg hA]
        by_cases hw1 : w = 1
        · have hw2 : w + 1 = 2 := by omega
          rw [if_pos hw2, if_pos (Or.inl hw1), x_handAll ht hr2 hu2 hq2 hd (by omega) hl, e_obv2]
        · have hw2 : ¬ w + 1 = 2 := by omega
          rw [if_neg hw2]
          by_cases ho : R 70 (8 * nd + l) = 0
          · have hB : ¬ (w = 1 ∨ (R 70 (8 * nd + l) = 1 ∧ R 14 (8 * nd + l) = 1)) := by omega
            have hC : ¬ R 70 (8 * nd + l) = 1 := by omega
            rw [if_pos ho, if_neg hB, if_neg hC]
          · rw [if_neg ho]
            unfold xX1_answer_99
            by_cases hc1 : R 14 (8 * nd + l) = 1
            · have e := x_handAll (N := N) (to := f) ht hr2 hu2 hq2 hd (by omega) hl
              have hB : w = 1 ∨ (R 70 (8 * nd + l) = 1 ∧ R 14 (8 * nd + l) = 1) := by omega
              rw [hc1, show R 70 (8 * nd + l) = 1 by omega] at e
              rw [if_pos hc1, if_pos hB, e, e_obv2]
            · have hB : ¬ (w = 1 ∨ (R 70 (8 * nd + l) = 1 ∧ R 14 (8 * nd + l) = 1)) := by omega
              have hC : R 70 (8 * nd + l) = 1 := by omega
              rw [if_neg hc1, if_neg hB, if_pos hC, x_hand ht hr2 hu2 hq2 hd (by omega) hl (by omega) (by omega) (Or.inl (by omega)) (by omega), e_obv2]
      · rw [if_neg h1, if_pos (Or.inl h1)]
  unfold xX1_answer
  rw [f_eq (by omega) (by omega)]
  by_cases hw1 : w = 1
  · subst hw1
    rw [if_pos rfl]
    exact e15
  · have : w = 0 := by omega
    subst this
    rw [if_neg (by omega)]
    exact e15
