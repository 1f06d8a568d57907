/-! ===== the class: a hit is done, a line is evicted, a miss ends ===== -/
theorem sh4_d {S : a_S} {i d : Nat} (h : S 126 i = 1) : sh4 S i (S 14 i) (S 70 i) 1 d = sw S 182 i d := by
  unfold sh4
  rw [sw_same (r := 126) (by simp (disch := omega) only [sw_r]; exact h.symm), sw_same (r := 70) (by simp (disch := omega) only [sw_r]), sw_same (r := 14) rfl]
theorem x_withData {N : j_M} {t n l e : Nat} {S : a_S} (ht : t ≠ 0) (h : RG S) (hn : n < 7) (hl : l < 8) (he : e < 10000) (h1 : S 126 (8 * n + l) = 1) : mw (XS N t S) (t + 1) (bk n + l) (nI (hvv (S 14 (8 * n + l)) (S 70 (8 * n + l)) 1 e)) = XS N t (sw S 182 (8 * n + l) e) := by
  rw [xw_h ht hn hl, sh4_d h1]
theorem hw_ {S : a_S} {i e : Nat} {M : j_M} (h : RG S) (he : e < 10000) : xX3_withData (nI (hv S i)) (nI e) M = some (nI (hvv (S 14 i) (S 70 i) 1 e), M) := h_with (g_hv h i).1 (g_hv h i).2.1 he
theorem x_perform {N : j_M} {t c l w v : Nat} {S : a_S} (ht : t ≠ 0) (h : RG S) (hu : UD S) (hc : c < 6) (hl : l < 8) (hw : w < 4) (hv0 : v < 10000) (h1 : S 126 (8 * c + l) = 1) : xX1_perform t (nI c) (nI l) (nI w) (nI v) (XS N t S) = some (nI (S 182 (8 * c + l)), XS N t (a_does S c l w v)) := by
  have hb := bk_le c
  have g := g_hv h (8 * c + l)
  have r2 := RG_does2 (c := c) (l := l) (w := w) h hv0
  have u2 : UD (a_does2 S c l w v) := UD_c hu (fun i => ad2_o (by omega)) (fun i => ad2_o (by omega))
  have e97 : xX1_perform_97 t (nI l) (nI (bk c)) (nI (S 182 (8 * c + l))) (XS N t (a_does2 S c l w v)) = some (nI (S 182 (8 * c + l)), XS N t (a_does S c l w v)) := by
    unfold xX1_perform_97 a_does
    rw [x_use ht r2 u2 hc hl, e_obv2]
  have e39 : ∀ D : a_S, D = (if w = 2 then S else a_sees S c (S 182 (8 * c + l))) → xX1_perform_39 t (nI l) (nI w) (nI v) (nI (bk c)) (nI (bk c + l)) (nI (S 182 (8 * c + l))) (XS N t D) = some (nI (S 182 (8 * c + l)), XS N t (a_does S c l w v)) := by
    intro D hD
    have rD : RG D := by
      rw [hD]
      split
      · exact h
      · exact RG_sees h
    have e126 : D 126 (8 * c + l) = 1 := by
      rw [hD]
      split
      · exact h1
      · rw [asee_o (by omega)]; exact h1
    unfold xX1_perform_39
    rw [f_eq (by omega) (by omega), f_eq (by omega) (by omega)]
    by_cases w2 : w = 2
    · rw [if_pos w2]
      rw [if_pos w2] at hD
      simp (disch := omega) only [e_gd, e_ix, e_oli2, e_oml2, e_obi2, e_obv2, e_add, e_mul, e_sub, e_eq, e_lt, e_le, e_eq0, e_0eq, e_lt0, e_0lt, e_le0, e_0le, e_m1, e_m1', e_m1lt, Nat.add_assoc, Nat.not_lt_zero, Nat.le_zero_eq, Nat.reduceAdd, xr_4, xr_5, xr_6, xr_7, xr_13, xr_14, xr_3, xr_10, xr_11, xr_12, xr_15, xr_16, xr_17, xr_18, xr_19, xr_0_8, xr_0_9, xr_0_10, xr_0_11, xr_0_12, xr_0_13, xr_0_14, xr_8_11, xr_8_12, xr_8_13, xr_8_14, xr_h, xr_e, xr_u, xr_m, xr_2, xr_9, hw_ rD hv0, x_withData ht rD (show c < 7 by omega) hl hv0 e126]
      rw [← e97]
      unfold a_does2 a_does1
      rw [if_neg (show ¬ w = 3 by omega), if_pos w2, hD]
    · rw [if_neg w2]
      rw [if_neg w2] at hD
      by_cases w3 : w = 3
      · have hm : (S 182 (8 * c + l) + v) % 10000 < 10000 := Nat.mod_lt _ (by omega)
        rw [if_pos w3]
        simp (disch := omega) only [e_gd, e_ix, e_oli2, e_oml2, e_obi2, e_obv2, e_add, e_mul, e_sub, e_eq, e_lt, e_le, e_eq0, e_0eq, e_lt0, e_0lt, e_le0, e_0le, e_m1, e_m1', e_m1lt, Nat.add_assoc, Nat.not_lt_zero, Nat.le_zero_eq, Nat.reduceAdd, xr_4, xr_5, xr_6, xr_7, xr_13, xr_14, xr_3, xr_10, xr_11, xr_12, xr_15, xr_16, xr_17, xr_18, xr_19, xr_0_8, xr_0_9, xr_0_10, xr_0_11, xr_0_12, xr_0_13, xr_0_14, xr_8_11, xr_8_12, xr_8_13, xr_8_14, xr_h, xr_e, xr_u, xr_m, xr_2, xr_9, e_gn, e_rem, hw_ rD hm, x_withData ht rD (show c < 7 by omega) hl hm e126]
        rw [← e97]
        unfold a_does2 a_does1
        rw [if_pos w3, if_neg w2, hD]
      · rw [if_neg w3, ← e97]
        unfold a_does2 a_does1
        rw [if_neg w3, if_neg w2, hD]
  unfold xX1_perform
  rw [x_blk (by omega), e_obi2]
  simp (disch := omega) only [e_gd, e_ix, e_oli2, e_oml2, e_obi2, e_obv2, e_add, e_mul, e_sub, e_eq, e_lt, e_le, e_eq0, e_0eq, e_lt0, e_0lt, e_le0, e_0le, e_m1, e_m1', e_m1lt, Nat.add_assoc, Nat.not_lt_zero, Nat.le_zero_eq, Nat.reduceAdd, xr_4, xr_5, xr_6, xr_7, xr_13, xr_14, xr_3, xr_10, xr_11, xr_12, xr_15, xr_16, xr_17, xr_18, xr_19, xr_0_8, xr_0_9, xr_0_10, xr_0_11, xr_0_12, xr_0_13, xr_0_14, xr_8_11, xr_8_12, xr_8_13, xr_8_14, xr_h, xr_e, xr_u, xr_m, xr_2, xr_9, hd_ h]
  by_cases w2 : w = 2
  · rw [if_pos w2, e39 S (by rw [if_pos w2])]
  · rw [if_neg w2, x_see ht h hc, e_obv2, e39 _ (by rw [if_neg w2])]
theorem an_sw {S : a_S} {w c l r i v : Nat} (h : r ≠ 6961 ∧ r ≠ 6962 ∧ ¬ (r = 1 ∧ i = 5)) : a_notes (sw S r i v) w c l = sw (a_notes S w c l) r i v := by
  refine (an_comm (F := fun A => sw A r i v) (fun A B hab => ag_sw hab (fun _ => rfl)) (fun A j => sw_r (fun e => h.1 e.symm)) (fun A j => sw_r (fun e => h.2.1 e.symm)) (sw_ne (by omega))).symm
theorem fo_sw1 {S : a_S} {c l i v : Nat} : a_forget (sw S 1 i v) c l = sw (a_forget S c l) 1 i v := by
  have e : a_used (sw S 1 i v) c l = a_used S c l := by
    unfold a_used
    simp (disch := omega) only [sw_r]
  unfold a_forget
  rw [e]
  split
  · rfl
  · rw [sw_r (by omega)]
    funext x j
    unfold a_shift sw
    by_cases h1 : x = 244
    · subst h1
      simp only [Nat.reduceEqDiff, false_and, if_false]
    · simp only [h1, if_false]
      (repeat' split) <;> first | rfl | (exfalso; omega)
theorem ag_sw1 {S : a_S} {nd t l mn ow da i v : Nat} (hi : i ≠ 7) : a_gives (sw S 1 i v) nd t l mn ow da = sw (a_gives S nd t l mn ow da) 1 i v := by
  have a0 : a_gives0 (sw S 1 i v) nd t l mn ow da = sw (a_gives0 S nd t l mn ow da) 1 i v := by
    unfold a_gives0
    rw [sw_r (by omega), sw_r (by omega), as_sw (by omega), sw_comm (by omega)]
  have a1 : a_gives1 (sw S 1 i v) nd t l mn ow da = sw (a_gives1 S nd t l mn ow da) 1 i v := by
    unfold a_gives1
    rw [a0]
    split
    · rfl
    · rw [sw_comm (by omega)]
  have a2 : a_gives2 (sw S 1 i v) nd t l mn ow da = sw (a_gives2 S nd t l mn ow da) 1 i v := by
    unfold a_gives2
    rw [a1, sw_comm (r := 1) (r' := 126) (by omega), sw_comm (r := 1) (r' := 182) (by omega)]
  unfold a_gives
  rw [sw_r (by omega), a1, a2, fo_sw1]
  split
  · split <;> rfl
  · rfl
theorem x_evictLine {N : j_M} {t c l : Nat} {S : a_S} (ht : t ≠ 0) (h : RG S) (hu : UD S) (hq : S 1 7 < 240) (hc : c < 6) (hl : l < 8) (h9 : S 6961 0 < 2147483000) : xX1_evictLine t (nI c) (nI l) (XS N t S) = some (XS N t (a_evicts S c l)) := by
  have hb := bk_le c
  have r1 : RG (sw S 1 12 (S 1 12 + 1)) := RG_sw h (by unfold rg; omega)
  have r2 := RG_notes (w := 4) (c := c) (l := l) r1
  have u2 : UD (a_notes (sw S 1 12 (S 1 12 + 1)) 4 c l) := UD_c hu (fun i => by rw [an_o (by omega), sw_r (by omega)]) (fun i => by rw [an_o (by omega), sw_r (by omega)])
  have hn := x_note (N := N) (t := t) (w := 4) (c := c) (l := l) (tk := S 1 5) (S := sw S 1 12 (S 1 12 + 1)) ht (by omega) (by omega) hl (by rw [sw_i (by omega)]) (by rw [sw_i (by omega)]; exact g_tk h) (by rw [sw_r (by omega)]; exact h9)
  have eh := x_handAll (N := N) (nd := c) (to := 6) (l := l) ht r2 u2 (by rw [an_o (by omega), sw_i (by omega)]; exact hq) (by omega) (by omega) hl
  rw [an_o (by omega), an_o (by omega), sw_r (by omega), sw_r (by omega)] at eh
  have fin : a_givesAll (a_notes (sw S 1 12 (S 1 12 + 1)) 4 c l) c 6 l = a_evicts S c l := by
    unfold a_evicts a_givesAll
    rw [an_sw (by omega), sw_r (by omega), sw_r (by omega), ag_sw1 (by omega)]
  rw [fin] at eh
  unfold xX1_evictLine
  rw [x_blk (by omega), e_obi2]
  simp (disch := omega) only [e_gd, e_ix, e_oli2, e_oml2, e_obi2, e_obv2, e_add, e_mul, e_sub, e_eq, e_lt, e_le, e_eq0, e_0eq, e_lt0, e_0lt, e_le0, e_0le, e_m1, e_m1', e_m1lt, Nat.add_assoc, Nat.not_lt_zero, Nat.le_zero_eq, Nat.reduceAdd, xr_4, xr_5, xr_6, xr_7, xr_13, xr_14, xr_3, xr_10, xr_11, xr_12, xr_15, xr_16, xr_17, xr_18, xr_19, xr_0_8, xr_0_9, xr_0_10, xr_0_11, xr_0_12, xr_0_13, xr_0_14, xr_8_11, xr_8_12, xr_8_13, xr_8_14, xr_h, xr_e, xr_u, xr_m, xr_2, xr_9, ho_ h, xw_4, xw_5, xw_6, xw_7, xw_13, xw_14, xw_3, xm_3, xw_10, xw_11, xw_12, xw_15, xw_16, xw_17, xw_18, xw_19, xw_0_8, xw_0_9, xw_0_10, xw_0_11, xw_0_12, xw_0_13, xw_0_14, xw_8_11, xw_8_12, xw_8_13, xw_8_14, xw_h, xw_e, sw_i, hn, hc_ h, eh]
theorem x_missOf {N : j_M} {t c : Nat} {S : a_S} (hc : c < 6) : xX1_missOf t (nI c) (XS N t S) = some (nI (msv S c), XS N t S) := by
  have hb := bk_le c
  unfold xX1_missOf
  rw [x_blk (by omega), e_obi2]
  simp (disch := omega) only [e_gd, e_ix, e_oli2, e_oml2, e_obi2, e_obv2, e_add, e_mul, e_sub, e_eq, e_lt, e_le, e_eq0, e_0eq, e_lt0, e_0lt, e_le0, e_0le, e_m1, e_m1', e_m1lt, Nat.add_assoc, Nat.not_lt_zero, Nat.le_zero_eq, Nat.reduceAdd, xr_4, xr_5, xr_6, xr_7, xr_13, xr_14, xr_3, xr_10, xr_11, xr_12, xr_15, xr_16, xr_17, xr_18, xr_19, xr_0_8, xr_0_9, xr_0_10, xr_0_11, xr_0_12, xr_0_13, xr_0_14, xr_8_11, xr_8_12, xr_8_13, xr_8_14, xr_h, xr_e, xr_u, xr_m, xr_2, xr_9]
theorem msv_l {S : a_S} {c l : Nat} (h : S 292 c = l + 1) : msv S c = mvv (S 298 c) l (S 310 c) (S 304 c) := by
  unfold msv
  rw [if_neg (by omega), h, Nat.add_sub_cancel]
theorem g_mv {S : a_S} (h : RG S) (c : Nat) : S 298 c < 4 ∧ S 310 c < 2 ∧ S 304 c < 10000 ∧ S 292 c ≤ 8 := ⟨g_4 h 298 c (by omega), g_b h 310 c (by omega), g_d h 304 c (by omega), g_8 h 292 c (by omega)⟩
theorem msv_lt {S : a_S} {c : Nat} (h : RG S) : msv S c < 2147483648 := by
  have g := g_mv h c
  unfold msv mvv
  split <;> omega
theorem msv_0 {S : a_S} {c : Nat} (hm : MS S) (hc : c < 6) : msv S c = 0 ↔ S 292 c = 0 := by
  have q := hm c hc
  unfold msv mvv
  split
  · omega
  · omega
theorem x_missed {N : j_M} {t c : Nat} {S : a_S} (h : RG S) (hm : MS S) (hc : c < 6) : xX1_missedLine t (nI c) (XS N t S) = some (oI (S 292 c), XS N t S) := by
  have hb := bk_le c
  have g := g_mv h c
  unfold xX1_missedLine
  rw [x_blk (by omega), e_obi2]
  simp (disch := omega) only [e_gd, e_ix, e_oli2, e_oml2, e_obi2, e_obv2, e_add, e_mul, e_sub, e_eq, e_lt, e_le, e_eq0, e_0eq, e_lt0, e_0lt, e_le0, e_0le, e_m1, e_m1', e_m1lt, Nat.add_assoc, Nat.not_lt_zero, Nat.le_zero_eq, Nat.reduceAdd, xr_4, xr_5, xr_6, xr_7, xr_13, xr_14, xr_3, xr_10, xr_11, xr_12, xr_15, xr_16, xr_17, xr_18, xr_19, xr_0_8, xr_0_9, xr_0_10, xr_0_11, xr_0_12, xr_0_13, xr_0_14, xr_8_11, xr_8_12, xr_8_13, xr_8_14, xr_h, xr_e, xr_u, xr_m, xr_2, xr_9]
  rw [f_eq0 (msv_lt h)]
  by_cases h0 : S 292 c = 0
  · rw [if_pos ((msv_0 hm hc).2 h0), h0]
    rfl
  · obtain ⟨l, hl⟩ : ∃ l, S 292 c = l + 1 := ⟨S 292 c - 1, by omega⟩
    rw [if_neg (fun e => h0 ((msv_0 hm hc).1 e)), msv_l hl, s_line g.1 (by omega) g.2.1 g.2.2.1, e_obi2, hl]
    rfl
theorem x_missed6 {N : j_M} {t : Nat} {S : a_S} : xX1_missedLine t (nI 6) (XS N t S) = some (-1, XS N t S) := by
  have hb := bk_le 6
  unfold xX1_missedLine
  rw [x_blk (by omega), e_obi2]
  simp (disch := omega) only [e_gd, e_ix, e_oli2, e_oml2, e_obi2, e_obv2, e_add, e_mul, e_sub, e_eq, e_lt, e_le, e_eq0, e_0eq, e_lt0, e_0lt, e_le0, e_0le, e_m1, e_m1', e_m1lt, Nat.add_assoc, Nat.not_lt_zero, Nat.le_zero_eq, xr_m6, if_true]
/-- the others are told -/
theorem at_skip {c k l wh : Nat} (hc : c < 6) : ∀ (m to : Nat) (S : a_S), to + m = 6 → S 1 0 ≤ to → a_tells c k l wh (m + 1) to S = a_send S c 6 k l 0 0 0 (S 316 (6 * c + c)) wh
  | 0, to, S, h, hN => by
    unfold a_tells
    rw [if_pos (by omega), show to = 6 by omega]
    rfl
  | m + 1, to, S, h, hN => by
    unfold a_tells
    rw [if_neg (by omega)]
    exact at_skip hc m (to + 1) S (by omega) (by omega)
theorem x_tells {N : j_M} {t c k l wh sq : Nat} (ht : t ≠ 0) (hc : c < 6) (hk : k = 4 ∨ k = 5) (hl : l < 8) (hw : wh < 4) (hs : sq ≤ 10101) : ∀ (m n to : Nat) (S : a_S), S 316 (6 * c + c) = sq → S 1 0 ≤ 6 → S 1 7 + m < 240 → to + m = S 1 0 → xX1_postToOthers_3 t (n + m + 1) (nI c) (nI k) (nI l) (nI (wh + 4 * sq)) (nI to) (XS N t S) = some (XS N t (a_tells c k l wh (m + (7 - S 1 0)) to S))
  | 0, n, to, S, h3, hN, hq, ho => by
    rw [show n + 0 + 1 = n + 1 from rfl, xX1_postToOthers_3.eq_2]
    simp (disch := omega) only [e_gd, e_ix, e_oli2, e_oml2, e_obi2, e_obv2, e_add, e_mul, e_sub, e_eq, e_lt, e_le, e_eq0, e_0eq, e_lt0, e_0lt, e_le0, e_0le, e_m1, e_m1', e_m1lt, Nat.add_assoc, Nat.not_lt_zero, Nat.le_zero_eq, Nat.reduceAdd, xr_4, xr_5, xr_6, xr_7, xr_13, xr_14, xr_3, xr_10, xr_11, xr_12, xr_15, xr_16, xr_17, xr_18, xr_19, xr_0_8, xr_0_9, xr_0_10, xr_0_11, xr_0_12, xr_0_13, xr_0_14, xr_8_11, xr_8_12, xr_8_13, xr_8_14, xr_h, xr_e, xr_u, xr_m, xr_2, xr_9, if_pos]
    rw [x_post (mn := 0) (ow := 0) (wi := 0) (nt := sq) (wh := wh) ht (by omega) (by omega) (by omega) (by omega) (by omega) hl (by omega) (by omega) (by omega) hs hw (by omega) (fun _ => ⟨rfl, rfl, rfl⟩) (by omega), e_obv2, show 0 + (7 - S 1 0) = (6 - S 1 0) + 1 by omega, at_skip hc _ _ _ (by omega) (by omega), h3]
  | m + 1, n, to, S, h3, hN, hq, ho => by
    rw [show n + (m + 1) + 1 = (n + m + 1) + 1 by omega, xX1_postToOthers_3.eq_2]
    simp (disch := omega) only [e_gd, e_ix, e_oli2, e_oml2, e_obi2, e_obv2, e_add, e_mul, e_sub, e_eq, e_lt, e_le, e_eq0, e_0eq, e_lt0, e_0lt, e_le0, e_0le, e_m1, e_m1', e_m1lt, Nat.add_assoc, Nat.not_lt_zero, Nat.le_zero_eq, Nat.reduceAdd, xr_4, xr_5, xr_6, xr_7, xr_13, xr_14, xr_3, xr_10, xr_11, xr_12, xr_15, xr_16, xr_17, xr_18, xr_19, xr_0_8, xr_0_9, xr_0_10, xr_0_11, xr_0_12, xr_0_13, xr_0_14, xr_8_11, xr_8_12, xr_8_13, xr_8_14, xr_h, xr_e, xr_u, xr_m, xr_2, xr_9]
    rw [if_neg (by omega), show m + (1 + (7 - S 1 0)) = (m + (7 - S 1 0)) + 1 by omega]
    conv => rhs; unfold a_tells
    by_cases h2 : to = c
    · have h4 : ¬ (to ≠ c ∧ (to < S 1 0 ∨ to = 6)) := by omega
      rw [if_pos h2, if_neg h4, show n + (m + 1) = n + m + 1 from rfl]
      exact x_tells ht hc hk hl hw hs m n (to + 1) S h3 hN (by omega) (by omega)
    · have h4 : to ≠ c ∧ (to < S 1 0 ∨ to = 6) := by omega
      rw [if_neg h2, if_pos h4, x_post (mn := 0) (ow := 0) (wi := 0) (nt := sq) (wh := wh) ht (by omega) (by omega) (by omega) (by omega) (by omega) hl (by omega) (by omega) (by omega) hs hw (by omega) (fun _ => ⟨rfl, rfl, rfl⟩) (by omega), e_obv2, show n + (m + 1) = n + m + 1 from rfl, h3]
      have e := x_tells (N := N) (t := t) ht hc hk hl hw hs m n (to + 1) (a_send S c to k l 0 0 0 sq wh) (by rw [as_o (by omega)]; exact h3) (by rw [as_1 (by omega)]; exact hN) (by rw [as_7]; omega) (by rw [as_1 (by omega)]; omega)
      rw [as_1 (by omega)] at e
      exact e
theorem x_tellsAll {N : j_M} {t c k l wh sq : Nat} {S : a_S} (ht : t ≠ 0) (h : RG S) (hc : c < 6) (hk : k = 4 ∨ k = 5) (hl : l < 8) (hw : wh < 4) (hs : S 316 (6 * c + c) = sq) (hq : S 1 7 ≤ 232) : xX1_postToOthers t (nI c) (nI k) (nI l) (nI (wh + 4 * sq)) (XS N t S) = some (XS N t (a_tells c k l wh 7 0 S)) := by
  have hn := g_n h
  have g := g_t h 316 (6 * c + c) (Or.inl rfl)
  have e := x_tells (N := N) (t := t) ht hc hk hl hw (show sq ≤ 10101 by omega) (S 1 0) (1000000 - (S 1 0 + 1)) 0 S hs hn (by omega) (by omega)
  unfold xX1_postToOthers
  rw [fu_s (S 1 0 + 1) (by omega), ← Nat.add_assoc, e, show S 1 0 + (7 - S 1 0) = 7 by omega]
theorem se5_m {S : a_S} {i : Nat} : se5 S i (S 358 i) 1 (S 442 i) (S 400 i) (S 316 i) = sw S 484 i 1 := by
  unfold se5
  rw [sw_same (r := 442) (by simp (disch := omega) only [sw_r]), sw_same (r := 400) (by simp (disch := omega) only [sw_r]), sw_same (r := 358) (by simp (disch := omega) only [sw_r]), sw_same (r := 316) rfl]
theorem se5_a {S : a_S} {i : Nat} : se5 S i 0 (S 484 i) (S 442 i) (S 400 i) (S 316 i) = sw S 358 i 0 := by
  unfold se5
  rw [sw_same (r := 484) (by simp (disch := omega) only [sw_r]), sw_same (r := 442) (by simp (disch := omega) only [sw_r]), sw_same (r := 400) (by simp (disch := omega) only [sw_r])]
  funext x j
  unfold sw
  (repeat' split) <;> first | rfl | (exfalso; omega) | (rename_i q; rw [q.1, q.2])
theorem ea_ {S : a_S} {i x : Nat} {M : j_M} (h : RG S) (hx : x < 8) : xX2_isActiveFor (nI (ev S i)) (nI x) M = some (if S 358 i = 1 ∧ S 400 i = x then nI 1 else nI 0, M) := v_act (g_ev h i).1 (g_ev h i).2.1 (g_ev h i).2.2.1 (g_ev h i).2.2.2.1 (g_ev h i).2.2.2.2 hx
theorem x_mk {N : j_M} {t c l : Nat} (ht : t ≠ 0) (hc : c < 6) (hl : l < 8) : ∀ (m n k : Nat) (S : a_S), RG S → S 358 (6 * c + c) = 0 → k + m = S 1 0 → xX1_closeEntry_24 t (n + m + 1) (nI l) (nI (bk c + 8)) (nI k) (XS N t S) = some (XS N t (a_mk S c l k))
  | 0, n, k, S, h, h0, hk => by
    have hn := g_n h
    have e : a_mk S c l k = S := by
      funext r i
      unfold a_mk
      rw [if_neg (by omega)]
    rw [show n + 0 + 1 = n + 1 from rfl, xX1_closeEntry_24.eq_2, e]
    simp (disch := omega) only [e_gd, e_ix, e_oli2, e_oml2, e_obi2, e_obv2, e_add, e_mul, e_sub, e_eq, e_lt, e_le, e_eq0, e_0eq, e_lt0, e_0lt, e_le0, e_0le, e_m1, e_m1', e_m1lt, Nat.add_assoc, Nat.not_lt_zero, Nat.le_zero_eq, Nat.reduceAdd, xr_4, xr_5, xr_6, xr_7, xr_13, xr_14, xr_3, xr_10, xr_11, xr_12, xr_15, xr_16, xr_17, xr_18, xr_19, xr_0_8, xr_0_9, xr_0_10, xr_0_11, xr_0_12, xr_0_13, xr_0_14, xr_8_11, xr_8_12, xr_8_13, xr_8_14, xr_h, xr_e, xr_u, xr_m, xr_2, xr_9, if_pos]
  | m + 1, n, k, S, h, h0, hk => by
    have hn := g_n h
    have hb := bk_le c
    have g := g_ev h (6 * c + k)
    have e0 := x_mk (N := N) ht hc hl m n (k + 1) S h h0 (by omega)
    have e1 := x_mk (N := N) ht hc hl m n (k + 1) (sw S 484 (6 * c + k) 1) (RG_sw h (by unfold rg; omega)) (by rw [sw_r (by omega)]; exact h0) (by rw [sw_r (by omega)]; omega)
    have w := xw_e (N := N) (t := t) (n := c) (c := k) (a := S 358 (6 * c + k)) (m := 1) (w := S 442 (6 * c + k)) (l := S 400 (6 * c + k)) (s := S 316 (6 * c + k)) (S := S) ht (by omega) (by omega)
    rw [se5_m] at w
    have o2 : nI (ev S (6 * c + k)) ||| nI 2 = nI (evv (S 358 (6 * c + k)) 1 (S 442 (6 * c + k)) (S 400 (6 * c + k)) (S 316 (6 * c + k))) := by
      unfold ev evv
      rw [e_or, n_o2]
      congr 1
      omega
    rw [show n + (m + 1) + 1 = (n + m + 1) + 1 by omega, xX1_closeEntry_24.eq_2]
    simp (disch := omega) only [e_gd, e_ix, e_oli2, e_oml2, e_obi2, e_obv2, e_add, e_mul, e_sub, e_eq, e_lt, e_le, e_eq0, e_0eq, e_lt0, e_0lt, e_le0, e_0le, e_m1, e_m1', e_m1lt, Nat.add_assoc, Nat.not_lt_zero, Nat.le_zero_eq, Nat.reduceAdd, xr_4, xr_5, xr_6, xr_7, xr_13, xr_14, xr_3, xr_10, xr_11, xr_12, xr_15, xr_16, xr_17, xr_18, xr_19, xr_0_8, xr_0_9, xr_0_10, xr_0_11, xr_0_12, xr_0_13, xr_0_14, xr_8_11, xr_8_12, xr_8_13, xr_8_14, xr_h, xr_e, xr_u, xr_m, xr_2, xr_9, ea_ h hl, o2, w]
    rw [if_neg (by omega), show n + (m + 1) = n + m + 1 from rfl, e0, e1]
    by_cases h2 : S 358 (6 * c + k) = 1 ∧ S 400 (6 * c + k) = l
    · have hkc : k ≠ c := by
        intro e
        rw [e] at h2
        omega
      have e : a_mk (sw S 484 (6 * c + k) 1) c l (k + 1) = a_mk S c l k := by
        funext r i
        unfold a_mk
        simp (disch := omega) only [sw_r]
        unfold sw
        by_cases hr : r = 484
        · by_cases hi : i = 6 * c + k
          · subst hi
            rw [if_neg (by omega), if_pos ⟨hr, rfl⟩, if_pos (by refine ⟨hr, ?_, ?_, ?_, h2.1, h2.2⟩ <;> omega)]
          · have q : (6 * c + (k + 1) ≤ i) = (6 * c + k ≤ i) := by apply propext; omega
            simp only [q, hi, and_false, if_false]
        · rw [if_neg (fun e => hr e.1), if_neg (fun e => hr e.1), if_neg (fun e => hr e.1)]
      rw [e, if_pos h2, if_neg (by decide)]
    · have e : a_mk S c l (k + 1) = a_mk S c l k := by
        funext r i
        unfold a_mk
        by_cases hi : i = 6 * c + k
        · subst hi
          rw [if_neg (by omega), if_neg]
          intro h9
          exact h2 ⟨h9.2.2.2.2.1, h9.2.2.2.2.2⟩
        · have q : (6 * c + (k + 1) ≤ i) = (6 * c + k ≤ i) := by apply propext; omega
          simp only [q]
      rw [e, if_neg h2, if_pos (by decide)]
theorem x_close {N : j_M} {t c l : Nat} {S : a_S} (ht : t ≠ 0) (h : RG S) (hc : c < 6) (hl : l < 8) : xX1_closeEntry t (nI c) (nI l) (XS N t S) = some (XS N t (a_mk (sw S 358 (6 * c + c) 0) c l 0)) := by
  have hn := g_n h
  have hb := bk_le c
  have g := g_ev h (6 * c + c)
  have w := xw_e (N := N) (t := t) (n := c) (c := c) (a := 0) (m := S 484 (6 * c + c)) (w := S 442 (6 * c + c)) (l := S 400 (6 * c + c)) (s := S 316 (6 * c + c)) (S := S) ht (by omega) (by omega)
  rw [se5_a] at w
  have o2 : nI (ev S (6 * c + c)) &&& (-2 : Int32) = nI (evv 0 (S 484 (6 * c + c)) (S 442 (6 * c + c)) (S 400 (6 * c + c)) (S 316 (6 * c + c))) := by
    unfold ev evv
    rw [e_mm2 (by omega)]
    congr 1
    omega
  have e := x_mk (N := N) (t := t) ht hc hl (S 1 0) (1000000 - (S 1 0 + 1)) 0 (sw S 358 (6 * c + c) 0) (RG_sw h (by unfold rg; omega)) (by rw [sw_at]) (by rw [sw_r (by omega)]; omega)
  unfold xX1_closeEntry
  rw [x_blk (by omega), e_obi2]
  simp (disch := omega) only [e_gd, e_ix, e_oli2, e_oml2, e_obi2, e_obv2, e_add, e_mul, e_sub, e_eq, e_lt, e_le, e_eq0, e_0eq, e_lt0, e_0lt, e_le0, e_0le, e_m1, e_m1', e_m1lt, Nat.add_assoc, Nat.not_lt_zero, Nat.le_zero_eq, Nat.reduceAdd, xr_4, xr_5, xr_6, xr_7, xr_13, xr_14, xr_3, xr_10, xr_11, xr_12, xr_15, xr_16, xr_17, xr_18, xr_19, xr_0_8, xr_0_9, xr_0_10, xr_0_11, xr_0_12, xr_0_13, xr_0_14, xr_8_11, xr_8_12, xr_8_13, xr_8_14, xr_h, xr_e, xr_u, xr_m, xr_2, xr_9, o2, w]
  rw [fu_s (S 1 0 + 1) (by omega), ← Nat.add_assoc, e]
