/-! ===== the class: a miss ends; tokens come; a message is delivered ===== -/
theorem xs_u {N : j_M} {t i v : Nat} {S : a_S} (hi : i = 6 ∨ i = 9 ∨ i = 10 ∨ i = 11) : XS N t (sw S 1 i v) = XS N t S := by
  funext x j
  unfold XS
  by_cases hr : t ≤ x ∧ x < t + 20 ∧ cl (x - t) ≤ j ∧ j < ch (x - t)
  · rw [if_pos hr, if_pos hr]
    refine cv_c (by omega) (fun r y hc => sw_ne ?_)
    rintro ⟨rfl, rfl⟩
    have h0 : x - t = 0 → j < 15 := fun h0 => by have := hr.2.2.2; rw [h0] at this; exact this
    simp only [cu, cu1, Nat.reduceEqDiff, false_and, and_false, or_false, false_or, true_and] at hc
    omega
  · rw [if_neg hr, if_neg hr]
theorem an_does {S : a_S} {w c l d x y v : Nat} : a_does (a_notes S w c l) d x y v = a_notes (a_does S d x y v) w c l :=
  an_comm (F := fun A => a_does A d x y v) (fun A B hab => ag_does CP_pn hab) (fun A i => ad_o (by omega)) (fun A i => ad_o (by omega)) (ad_o (by omega))
theorem x_endMiss {N : j_M} {t c l : Nat} {S : a_S} (ht : t ≠ 0) (h : RG S) (hu : UD S) (hq : S 1 7 ≤ 232) (hc : c < 6) (hl : l < 8) (hm : S 292 c = l + 1) (h9 : S 6961 0 < 2147483000) (hb9 : S 6730 c ≤ S 1 5) (h1 : S 126 (8 * c + l) = 1) : xX1_endMiss t (nI c) (XS N t S) = some (XS N t (a_ends S c l)) := by
  have hb := bk_le c
  have g := g_mv h c
  have f7 := UD_f7 h hu hc hl
  have htk := g_tk h
  have rD := RG_does (c := c) (l := l) (w := S 298 c) h hl g.2.2.1 f7
  have ep := x_perform (N := N) (t := t) (w := S 298 c) (v := S 304 c) ht h hu hc hl g.1 g.2.2.1 h1
  have hD : ∀ r i, r ≠ 182 → r ≠ 2746 → r ≠ 2752 → r ≠ 238 → r ≠ 244 → a_does S c l (S 298 c) (S 304 c) r i = S r i := fun r i a b d e f => ad_o ⟨a, b, d, e, f⟩
  generalize hDD : a_does S c l (S 298 c) (S 304 c) = D at *
  have ew : mw (XS N t D) (t + 1) (bk c + 15) (nI 0) = XS N t (sw (sw (sw (sw D 292 c 0) 298 c 0) 304 c 0) 310 c 0) := by
    refine xw_m ht hc ?_ (fun r x hx => by rw [sw_ne (by omega), sw_ne (by omega), sw_ne (by omega), sw_ne (by omega)])
    unfold msv
    rw [if_pos (by simp (disch := omega) only [sw_r, sw_at])]
  generalize hC : sw (sw (sw (sw D 292 c 0) 298 c 0) 304 c 0) 310 c 0 = C at *
  have rC : RG C := by rw [← hC]; exact RG_sw (RG_sw (RG_sw (RG_sw rD (by unfold rg; omega)) (by unfold rg; omega)) (by unfold rg; omega)) (by unfold rg; omega)
  have cC : ∀ r i, r ≠ 292 → r ≠ 298 → r ≠ 304 → r ≠ 310 → C r i = D r i := fun r i a b d e => by rw [← hC, sw_r e, sw_r d, sw_r b, sw_r a]
  have eC : ∀ i, C 6736 i = S 6736 i := fun i => by rw [cC _ _ (by omega) (by omega) (by omega) (by omega), hD _ _ (by omega) (by omega) (by omega) (by omega) (by omega)]
  have ec := x_countEnd (N := N) (t := t) (c := c) (d := S 1 5 - S 6730 c) (S := C) ht rC hc (by omega)
  rw [eC, eC, eC] at ec
  generalize hE : sw (sw (sw C 6736 (5 * c + 1) (S 6736 (5 * c + 1) + 1)) 6736 (5 * c + 2) (S 6736 (5 * c + 2) + (S 1 5 - S 6730 c))) 6736 (5 * c + 3) (max (S 6736 (5 * c + 3)) (S 1 5 - S 6730 c)) = E at *
  have c1 : ∀ i, C 1 i = S 1 i := fun i => by rw [cC _ _ (by omega) (by omega) (by omega) (by omega), hD _ _ (by omega) (by omega) (by omega) (by omega) (by omega)]
  have c67 : ∀ i, C 6730 i = S 6730 i := fun i => by rw [cC _ _ (by omega) (by omega) (by omega) (by omega), hD _ _ (by omega) (by omega) (by omega) (by omega) (by omega)]
  have E1 : ∀ i, E 1 i = S 1 i := fun i => by rw [← hE, sw_r (by omega), sw_r (by omega), sw_r (by omega), c1]
  have E6 : E 6961 0 = S 6961 0 := by rw [← hE, sw_r (by omega), sw_r (by omega), sw_r (by omega), cC _ _ (by omega) (by omega) (by omega) (by omega), hD _ _ (by omega) (by omega) (by omega) (by omega) (by omega)]
  have en := x_note (N := N) (t := t) (w := 2) (c := c) (l := l) (tk := S 1 5) (S := E) ht (by omega) (by omega) hl (E1 5).symm (by rw [E1]; exact htk) (by rw [E6]; exact h9)
  have fin : XS N t (a_notes E 2 c l) = XS N t (a_ends3 S c l) := by
    have e1 : a_notes E 2 c l = sw (sw (sw (sw (sw (sw (sw (a_ends1 S c l) 292 c 0) 298 c 0) 304 c 0) 310 c 0) 6736 (5 * c + 1) (S 6736 (5 * c + 1) + 1)) 6736 (5 * c + 2) (S 6736 (5 * c + 2) + (S 1 5 - S 6730 c))) 6736 (5 * c + 3) (max (S 6736 (5 * c + 3)) (S 1 5 - S 6730 c)) := by
      unfold a_ends1
      rw [an_does, hDD, ← hE, ← hC]
      simp (disch := omega) only [an_sw]
    rw [e1]
    unfold a_ends3 a_ends2
    rw [sw_comm (r := 1) (r' := 6736) (i' := 5 * c + 1) (by omega), sw_comm (r := 1) (r' := 6736) (i' := 5 * c + 2) (by omega), sw_comm (r := 1) (r' := 6736) (i' := 5 * c + 3) (by omega), xs_u (by omega)]
  have r3 := RG_ends3 (c := c) (l := l) h hl f7
  have r4 := RG_ends4 (c := c) (l := l) h hl f7
  have ecl := x_close (N := N) (t := t) (S := a_ends3 S c l) ht r3 hc hl
  have q4 : a_ends4 S c l 1 7 = S 1 7 := ae4_1 (by omega)
  have et := x_tellsAll (N := N) (t := t) (k := 5) (wh := 0) (sq := a_ends4 S c l 316 (6 * c + c)) (S := a_ends4 S c l) ht r4 hc (Or.inr rfl) hl (by omega) rfl (by omega)
  rw [Nat.zero_add] at et
  have g4 := g_t r4 316 (6 * c + c) (Or.inl rfl)
  unfold xX1_endMiss
  rw [x_blk (by omega), e_obi2]
  simp (disch := omega) only [e_gd, e_ix, e_oli2, e_oml2, e_obi2, e_obv2, e_add, e_mul, e_sub, e_eq, e_lt, e_le, e_eq0, e_0eq, e_lt0, e_0lt, e_le0, e_0le, e_m1, e_m1', e_m1lt, Nat.add_assoc, Nat.not_lt_zero, Nat.le_zero_eq, Nat.reduceAdd, xr_4, xr_5, xr_6, xr_7, xr_13, xr_14, xr_3, xr_10, xr_11, xr_12, xr_15, xr_16, xr_17, xr_18, xr_19, xr_0_8, xr_0_9, xr_0_10, xr_0_11, xr_0_12, xr_0_13, xr_0_14, xr_8_11, xr_8_12, xr_8_13, xr_8_14, xr_h, xr_e, xr_u, xr_m, xr_2, xr_9, msv_l hm, s_line, s_what, s_val, s_good, ep, ew, c1, c67, ec, E1, en, fin]
  unfold a_ends
  by_cases hg : S 310 c = 1
  · rw [if_neg (by omega), if_pos hg, ecl]
    have e4 : a_mk (sw (a_ends3 S c l) 358 (6 * c + c) 0) c l 0 = a_ends4 S c l := rfl
    rw [e4, e_obv2, x_entry (by omega) hc, e_obi2, es_ r4, e_obi2, e_shl (by omega) (by omega), show a_ends4 S c l 316 (6 * c + c) * 2 ^ 2 = 4 * a_ends4 S c l 316 (6 * c + c) by omega, et, e_obv2]
  · rw [if_pos (by omega), if_neg hg]
theorem x_wouldHit {N : j_M} {t c l w : Nat} {S : a_S} (h : RG S) (hc : c < 7) (hl : l < 8) (hw : w < 4) (hT : S 14 (8 * c + l) ≤ S 1 1) : xX1_wouldHit t (nI c) (nI l) (nI w) (XS N t S) = some (if a_H S c l w then nI 1 else nI 0, XS N t S) := by
  have hb := bk_le c
  have g := g_hv h (8 * c + l)
  have hTT := g_T h
  unfold xX1_wouldHit xX1_wouldHit_26
  rw [x_blk hc, e_obi2]
  simp (disch := omega) only [e_gd, e_ix, e_oli2, e_oml2, e_obi2, e_obv2, e_add, e_mul, e_sub, e_eq, e_lt, e_le, e_eq0, e_0eq, e_lt0, e_0lt, e_le0, e_0le, e_m1, e_m1', e_m1lt, Nat.add_assoc, Nat.not_lt_zero, Nat.le_zero_eq, Nat.reduceAdd, xr_4, xr_5, xr_6, xr_7, xr_13, xr_14, xr_3, xr_10, xr_11, xr_12, xr_15, xr_16, xr_17, xr_18, xr_19, xr_0_8, xr_0_9, xr_0_10, xr_0_11, xr_0_12, xr_0_13, xr_0_14, xr_8_11, xr_8_12, xr_8_13, xr_8_14, xr_h, xr_e, xr_u, xr_m, xr_2, xr_9, hl_ h, hc_ h]
  unfold a_H
  generalize S 126 (8 * c + l) = v at *
  generalize S 14 (8 * c + l) = n at *
  generalize S 1 1 = T at *
  (repeat' split) <;> first | rfl | (exfalso; omega)
theorem x_196 {N : j_M} {t nd l : Nat} {S : a_S} (ht : t ≠ 0) (h : RG S) (hu : UD S) (hm : MS S) (hq : S 1 7 ≤ 231) (hd : nd < 7) (hl : l < 8) (h9 : S 6961 0 < 2147483000) (hb9 : nd < 6 → S 6730 nd ≤ S 1 5) (hT : S 14 (8 * nd + l) ≤ S 1 1) : xX1_takeTokens_196 t (nI nd) (nI l) (XS N t S) = some (XS N t (a_c272 S nd l)) := by
  have hs := x_settle (N := N) (t := t) ht h hu (by omega) hd hl
  unfold xX1_takeTokens_196 a_c272 xX1_takeTokens_227
  by_cases h6 : nd = 6
  · subst h6
    rw [x_missed6, e_obi2, if_neg (by rw [e_m1' (by omega)]; exact id), hs, e_obv2, if_neg (by omega)]
  · have g := g_mv h nd
    rw [x_missed h hm (by omega), e_obi2, f_oeq (by omega) (by omega)]
    by_cases h3 : S 292 nd = l + 1
    · have f7 := UD_f7 h hu (c := nd) (l := l) (by omega) hl
      have ge := RG_ends (c := nd) (l := l) h (by omega) (by omega) hl f7
      have ue := UD_ends (c := nd) (l := l) h (by omega) hl hu
      have he := x_settle (N := N) (t := t) (S := a_ends S nd l) ht ge.1 ue (by omega) hd hl
      rw [if_pos h3, x_missOf (by omega), e_obi2, msv_l h3, s_what g.1, e_obi2, x_wouldHit h hd hl g.1 hT, e_obi2]
      by_cases h4 : a_H S nd l (S 298 nd)
      · rw [if_pos h4, if_neg (by decide), if_pos ⟨h6, h3, h4⟩, x_endMiss ht h hu (by omega) (by omega) hl h3 h9 (hb9 (by omega)) h4.1, e_obv2, he, e_obv2]
      · rw [if_neg h4, if_pos (by decide), if_neg (fun q => h4 q.2.2), hs, e_obv2]
    · rw [if_neg h3, if_neg (fun q => h3 q.2.1), hs, e_obv2]
theorem us_sw {S : a_S} {c l r i v : Nat} (h : r ≠ 238 ∧ r ≠ 244) : a_use (sw S r i v) c l = sw (a_use S c l) r i v := by
  have e : a_used (sw S r i v) c l = a_used S c l := by
    unfold a_used
    simp (disch := omega) only [sw_r (show 238 ≠ r from fun q => h.1 q.symm), sw_r (show 244 ≠ r from fun q => h.2 q.symm)]
  have f : a_forget (sw S r i v) c l = sw (a_forget S c l) r i v := by
    unfold a_forget
    rw [e]
    split
    · rfl
    · rw [sw_r (show 238 ≠ r from fun q => h.1 q.symm)]
      funext x j
      unfold a_shift
      by_cases h1 : x = 244
      · subst h1
        have q : ∀ (A : a_S) (y : Nat), sw A r i v 244 y = A 244 y := fun A y => sw_r (fun q => h.2 q.symm)
        have q2 : ∀ (A : a_S) (y z : Nat), sw A 238 c z 244 y = A 244 y := fun A y z => sw_r (by omega)
        simp only [if_true, q, q2]
      · rw [if_neg h1]
        unfold sw
        simp only [h1, if_false]
        (repeat' split) <;> first | rfl | (exfalso; omega)
  unfold a_use
  rw [f, sw_r (show 238 ≠ r from fun q => h.1 q.symm), sw_comm (r := r) (r' := 244) (by omega), sw_comm (r := r) (r' := 238) (by omega)]
theorem us_take {S : a_S} {nd l mn ow wi c x : Nat} : a_use (a_take S nd l mn ow wi) c x = a_take (a_use S c x) nd l mn ow wi := by
  have a1 : a_use (a_take1 S nd l mn) c x = a_take1 (a_use S c x) nd l mn := by
    unfold a_take1
    rw [us_sw (by omega), us_o (by omega)]
  have a2 : a_use (a_take2 (a_take1 S nd l mn) nd l ow) c x = a_take2 (a_take1 (a_use S c x) nd l mn) nd l ow := by
    unfold a_take2
    split
    · rw [us_sw (by omega), a1]
    · exact a1
  unfold a_take a_take3
  split
  · exact a2
  · rw [us_sw (by omega), us_sw (by omega), a2]
theorem sh4_n {S : a_S} {i n : Nat} : sh4 S i n (S 70 i) (S 126 i) (S 182 i) = sw S 14 i n := by
  unfold sh4
  rw [sw_same (r := 182) (by simp (disch := omega) only [sw_r]), sw_same (r := 126) (by simp (disch := omega) only [sw_r]), sw_same (r := 70) (by simp (disch := omega) only [sw_r])]
theorem sh4_o {S : a_S} {i n : Nat} : sh4 S i (S 14 i) n (S 126 i) (S 182 i) = sw S 70 i n := by
  unfold sh4
  rw [sw_same (r := 182) (by simp (disch := omega) only [sw_r]), sw_same (r := 126) (by simp (disch := omega) only [sw_r]), sw_same (r := 14) rfl]
theorem sh4_v {S : a_S} {i n d : Nat} : sh4 S i (S 14 i) (S 70 i) n d = sw (sw S 126 i n) 182 i d := by
  unfold sh4
  rw [sw_same (r := 14) rfl, sw_same (r := 70) rfl]
theorem x_118 {N : j_M} {t nd l mn ow wi fi cgo : Nat} {S : a_S} (ht : t ≠ 0) (h : RG S) (hu : UD S) (hm : MS S) (hq : S 1 7 ≤ 231) (hd : nd < 7) (hl : l < 8) (h9 : S 6961 0 < 2147483000) (hb9 : nd < 6 → S 6730 nd ≤ S 1 5) (hT : S 14 (8 * nd + l) + mn ≤ S 1 1) (ho : ow < 2) (hw : wi ≤ 10000) (hf : fi < 2) (hf6 : fi = 1 → nd < 6) (hcg : cgo = mn + 16 * ow + 32 * wi) : xX1_takeTokens_118 t (nI nd) (nI l) (nI cgo) (nI (bk nd)) (nI (bk nd + l)) (nI fi) (XS N t S) = some (XS N t (a_c272 (a_take (if fi = 1 then a_use S nd l else S) nd l mn ow wi) nd l)) := by
  have hb := bk_le nd
  have hTT := g_T h
  have r0 := RG_take (ow := ow) (wi := wi) h (show S 14 (8 * nd + l) + mn ≤ 12 by omega) hw
  have u0 : UD (a_take S nd l mn ow wi) := UD_take hu
  have e183 : xX1_takeTokens_183 t (nI nd) (nI l) (nI (bk nd)) (nI fi) (XS N t (a_take S nd l mn ow wi)) = some (XS N t (a_c272 (a_take (if fi = 1 then a_use S nd l else S) nd l mn ow wi) nd l)) := by
    unfold xX1_takeTokens_183
    rw [f_eq0 (by omega)]
    by_cases hf0 : fi = 0
    · rw [if_pos hf0, if_neg (by omega), x_196 ht r0 u0 (MS_c hm (fun i => ta_o (by omega)) (fun i => ta_o (by omega)) (fun i => ta_o (by omega)) (fun i => ta_o (by omega)) (ta_o (by omega))) (by rw [ta_o (by omega)]; exact hq) hd hl (by rw [ta_o (by omega)]; exact h9) (by rw [ta_o (by omega), ta_o (by omega)]; exact hb9) (by rw [take_c, ta_o (by omega)]; exact hT)]
    · have hd6 := hf6 (by omega)
      have f7 := UD_f7 r0 u0 hd6 hl
      have r1 := RG_use (c := nd) (l := l) r0 hl f7
      have u1 := UD_use (c := nd) (l := l) r0 hd6 u0 f7
      rw [if_neg hf0, if_pos (by omega), x_use ht r0 u0 hd6 hl, e_obv2, us_take] at *
      have o : ∀ r i, r ≠ 14 → r ≠ 70 → r ≠ 126 → r ≠ 182 → r ≠ 238 → r ≠ 244 → a_take (a_use S nd l) nd l mn ow wi r i = S r i := fun r i a b c d e f => by rw [ta_o ⟨a, b, c, d⟩, us_o ⟨e, f⟩]
      exact x_196 ht r1 u1 (MS_c hm (fun i => o _ _ (by omega) (by omega) (by omega) (by omega) (by omega) (by omega)) (fun i => o _ _ (by omega) (by omega) (by omega) (by omega) (by omega) (by omega)) (fun i => o _ _ (by omega) (by omega) (by omega) (by omega) (by omega) (by omega)) (fun i => o _ _ (by omega) (by omega) (by omega) (by omega) (by omega) (by omega)) (o _ _ (by omega) (by omega) (by omega) (by omega) (by omega) (by omega))) (by rw [o _ _ (by omega) (by omega) (by omega) (by omega) (by omega) (by omega)]; exact hq) hd hl (by rw [o _ _ (by omega) (by omega) (by omega) (by omega) (by omega) (by omega)]; exact h9) (by rw [o _ _ (by omega) (by omega) (by omega) (by omega) (by omega) (by omega), o _ _ (by omega) (by omega) (by omega) (by omega) (by omega) (by omega)]; exact hb9) (by rw [take_c, us_o (by omega), o _ _ (by omega) (by omega) (by omega) (by omega) (by omega) (by omega)]; exact hT)
  have r1 : RG (a_take1 S nd l mn) := by
    unfold a_take1
    exact RG_sw h (by unfold rg; omega)
  have r2 : RG (a_take2 (a_take1 S nd l mn) nd l ow) := by
    unfold a_take2
    split
    · exact RG_sw r1 (by unfold rg; omega)
    · exact r1
  have g1 := g_hv r1 (8 * nd + l)
  have e153 : xX1_takeTokens_153 t (nI nd) (nI l) (nI cgo) (nI (bk nd)) (nI (bk nd + l)) (nI fi) (XS N t (a_take2 (a_take1 S nd l mn) nd l ow)) = some (XS N t (a_c272 (a_take (if fi = 1 then a_use S nd l else S) nd l mn ow wi) nd l)) := by
    unfold xX1_takeTokens_153
    rw [← e183, e_us (by omega) (by omega), show cgo / 2 ^ 5 = wi by omega, f_eq0 (by omega)]
    unfold a_take a_take3
    by_cases hw0 : wi = 0
    · rw [if_pos hw0, if_pos hw0]
    · rw [if_neg hw0, if_neg hw0, e_sub (by omega)]
      simp (disch := omega) only [e_gd, e_ix, e_oli2, e_oml2, e_obi2, e_obv2, e_add, e_mul, e_sub, e_eq, e_lt, e_le, e_eq0, e_0eq, e_lt0, e_0lt, e_le0, e_0le, e_m1, e_m1', e_m1lt, Nat.add_assoc, Nat.not_lt_zero, Nat.le_zero_eq, Nat.reduceAdd, xr_4, xr_5, xr_6, xr_7, xr_13, xr_14, xr_3, xr_10, xr_11, xr_12, xr_15, xr_16, xr_17, xr_18, xr_19, xr_0_8, xr_0_9, xr_0_10, xr_0_11, xr_0_12, xr_0_13, xr_0_14, xr_8_11, xr_8_12, xr_8_13, xr_8_14, xr_h, xr_e, xr_u, xr_m, xr_2, xr_9, hw_ r2 (show wi - 1 < 10000 by omega), xw_h, sh4_v]
  have e1 : nI (hv S (8 * nd + l)) + nI mn = nI (hvv (S 14 (8 * nd + l) + mn) (S 70 (8 * nd + l)) (S 126 (8 * nd + l)) (S 182 (8 * nd + l))) := by
    rw [e_add]
    unfold hv hvv
    congr 1
    omega
  have w1 := xw_h (N := N) (t := t) (n := nd) (l := l) (c := S 14 (8 * nd + l) + mn) (o := S 70 (8 * nd + l)) (v := S 126 (8 * nd + l)) (d := S 182 (8 * nd + l)) (S := S) ht hd hl
  rw [sh4_n] at w1
  have ex : cgo &&& 15 = mn := by rw [n_m15]; omega
  have ex2 : cgo &&& 16 = 16 * ow := by rw [n_b16]; omega
  have o16 : nI (hv (a_take1 S nd l mn) (8 * nd + l)) ||| nI 16 = nI (hvv (a_take1 S nd l mn 14 (8 * nd + l)) 1 (a_take1 S nd l mn 126 (8 * nd + l)) (a_take1 S nd l mn 182 (8 * nd + l))) := by
    unfold hv hvv
    rw [e_or, n_o16]
    congr 1
    omega
  unfold xX1_takeTokens_118
  simp (disch := omega) only [e_gd, e_ix, e_oli2, e_oml2, xr_h, e_and, ex, ex2, e1, w1]
  have t1 : sw S 14 (8 * nd + l) (S 14 (8 * nd + l) + mn) = a_take1 S nd l mn := rfl
  rw [t1, f_eq0 (by omega)]
  unfold a_take2 at e153
  by_cases ho0 : ow = 0
  · rw [if_neg (show ¬ ow = 1 by omega)] at e153
    rw [if_pos (by omega), e153]
  · rw [if_pos (show ow = 1 by omega)] at e153
    rw [if_neg (by omega), ← e153]
    simp (disch := omega) only [e_gd, e_ix, e_oli2, e_oml2, xr_h, o16, xw_h, sh4_o]
