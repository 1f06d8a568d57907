/-! ===== tokens come ===== -/
def a_rem (S : a_S) (nd f l : Nat) : a_S := if f = 6 then sw S 538 (8 * nd + l) 0 else sw (sw S 538 (8 * nd + l) (f + 1)) 6766 (8 * nd + l) (S 6766 (8 * nd + l) ||| 2 ^ f)
def a_take1 (S : a_S) (nd l mn : Nat) : a_S := sw S 14 (8 * nd + l) (S 14 (8 * nd + l) + mn)
def a_take2 (S : a_S) (nd l ow : Nat) : a_S := if ow = 1 then sw S 70 (8 * nd + l) 1 else S
def a_take3 (S : a_S) (nd l wi : Nat) : a_S := if wi = 0 then S else sw (sw S 126 (8 * nd + l) 1) 182 (8 * nd + l) (wi - 1)
def a_take (S : a_S) (nd l mn ow wi : Nat) : a_S := a_take3 (a_take2 (a_take1 S nd l mn) nd l ow) nd l wi
def a_c272 (S : a_S) (nd l : Nat) : a_S := if nd ≠ 6 ∧ S 292 nd = l + 1 ∧ a_H S nd l (S 298 nd) then a_settles (a_ends S nd l) nd l else a_settles S nd l
def a_c178 (S : a_S) (nd l mn ow wi : Nat) : a_S := a_c272 (a_take (if S 14 (8 * nd + l) = 0 then a_use S nd l else S) nd l mn ow wi) nd l
def a_eld (S : a_S) (nd l : Nat) : Nat := if S 244 (8 * nd) = l then S 244 (8 * nd + 1) else S 244 (8 * nd)
def a_c82 (S : a_S) (nd l mn ow wi : Nat) : a_S :=
  if S 14 (8 * nd + l) = 0 ∧ S 1 2 ≤ S 238 nd then
    (if S 292 nd = l + 1 then a_c178 (a_evicts S nd (a_eld S nd l)) nd l mn ow wi else a_send (a_notes S 5 nd l) nd 6 3 l mn ow wi 0 0)
  else a_c178 S nd l mn ow wi
def a_comes (S : a_S) (nd f l mn ow wi : Nat) : a_S := if nd = 6 then a_c272 (a_take S nd l mn ow wi) nd l else a_c82 (a_rem S nd f l) nd l mn ow wi
theorem re_o {S : a_S} {nd f l r i : Nat} (h : r ≠ 538 ∧ r ≠ 6766) : a_rem S nd f l r i = S r i := by
  unfold a_rem
  split
  · rw [sw_r h.1]
  · rw [sw_r h.2, sw_r h.1]
theorem ta_o {S : a_S} {nd l mn ow wi r i : Nat} (h : r ≠ 14 ∧ r ≠ 70 ∧ r ≠ 126 ∧ r ≠ 182) : a_take S nd l mn ow wi r i = S r i := by
  have e2 : a_take2 (a_take1 S nd l mn) nd l ow r i = S r i := by
    unfold a_take2 a_take1
    split
    · rw [sw_r (by omega), sw_r (by omega)]
    · rw [sw_r (by omega)]
  unfold a_take a_take3
  split
  · exact e2
  · rw [sw_r (by omega), sw_r (by omega), e2]
theorem RG_rem {S : a_S} {nd f l : Nat} (h : RG S) (hf : f < 7) : RG (a_rem S nd f l) := by
  unfold a_rem
  split
  · exact RG_sw h (by unfold rg; omega)
  · have e2 := or_64 (f := f) (g_gr h (8 * nd + l)) (by omega)
    exact RG_sw (RG_sw h (by unfold rg; omega)) (by unfold rg; omega)
theorem RG_take {S : a_S} {nd l mn ow wi : Nat} (h : RG S) (hc : S 14 (8 * nd + l) + mn ≤ 12) (hw : wi ≤ 10000) : RG (a_take S nd l mn ow wi) := by
  have e1 : RG (a_take1 S nd l mn) := by
    unfold a_take1
    exact RG_sw h (by unfold rg; omega)
  have e2 : RG (a_take2 (a_take1 S nd l mn) nd l ow) := by
    unfold a_take2
    split
    · exact RG_sw e1 (by unfold rg; omega)
    · exact e1
  unfold a_take a_take3
  split
  · exact e2
  · exact RG_sw (RG_sw e2 (by unfold rg; omega)) (by unfold rg; omega)
theorem UD_take {S : a_S} {nd l mn ow wi : Nat} (h : UD S) : UD (a_take S nd l mn ow wi) := UD_c h (fun i => ta_o (by omega)) (fun i => ta_o (by omega))
theorem UD_rem {S : a_S} {nd f l : Nat} (h : UD S) : UD (a_rem S nd f l) := UD_c h (fun i => re_o (by omega)) (fun i => re_o (by omega))
theorem UD_ends {S : a_S} {c l : Nat} (hr : RG S) (hc : c < 6) (hl : l < 8) (h : UD S) : UD (a_ends S c l) := by
  have u1 : UD (a_ends1 S c l) := UD_does (RG_notes hr) hc hl (g_d hr 304 c (Or.inr rfl)) (UD_notes h)
  have u3 : UD (a_ends3 S c l) := by
    refine UD_c u1 (fun i => ?_) (fun i => ?_) <;> unfold a_ends3 a_ends2 <;> simp (disch := omega) only [sw_r]
  unfold a_ends
  split
  · refine UD_c u3 (fun i => ?_) (fun i => ?_) <;> rw [at_o (by omega)] <;> unfold a_ends4 <;> rw [mk_o (by omega), sw_r (by omega)]
  · exact u3
theorem r_c272 {N : j_M} {S : a_S} {nd l : Nat} (h : RG S) (hu : UD S) (h1 : 1 ≤ S 1 0) (hq : S 1 7 ≤ 232) (hd : nd < 7) (hl : l < 8) (ht : S 6961 0 < 2147483000) (hb : nd < 6 → S 6730 nd ≤ S 1 5) : xX12_comes_272 (nI nd) (nI l) (RS N S) = some (RS N (a_c272 S nd l)) := by
  have hw := g_4 h 298 nd (Or.inl rfl)
  have h8 := g_8 h 292 nd (by omega)
  have es := q_settles (N := N) h (by omega) hd hl
  unfold xX12_comes_272 a_c272 xX12_comes_316
  by_cases h6 : nd = 6
  · simp (disch := omega) only [e_gd, e_ix, e_oli, e_oml, e_obi, e_obv, e_add, e_mul, e_sub, e_eq, e_lt, e_le, e_eq0, e_0eq, e_lt0, e_0lt, e_le0, e_0le, e_m1, e_m1', e_m1lt, Nat.add_assoc, Nat.not_lt_zero, Nat.le_zero_eq, e_obvs]
    rw [if_pos h6, es, if_neg (by omega)]
  · have f7 := UD_f7 h hu (c := nd) (l := l) (by omega) hl
    have ge := RG_ends (c := nd) (l := l) h (by omega) (by omega) hl f7
    have ee := q_settles (N := N) (S := a_ends S nd l) (nd := nd) (l := l) ge.1 (by omega) hd hl
    simp (disch := omega) only [e_gd, e_ix, e_oli, e_oml, e_obi, e_obv, e_add, e_mul, e_sub, e_eq, e_lt, e_le, e_eq0, e_0eq, e_lt0, e_0lt, e_le0, e_0le, e_m1, e_m1', e_m1lt, Nat.add_assoc, Nat.not_lt_zero, Nat.le_zero_eq, e_obvs, sr_1, sr_14, sr_70, sr_126, sr_182, sr_238, sr_244, sr_292, sr_298, sr_304, sr_310, sr_316, sr_358, sr_400, sr_442, sr_484, sr_526, sr_532, sr_538, so_586, sr_586, sr_2746, sr_2752, sr_3112, sr_3118, sr_3124, sr_3130, sr_6730, sr_6736, sr_6766, sr_6814, sr_6961, sr_6962, sr_7362, sr_7363, sr_7364, su_6961, su_7362, su_7363, oI_eq, q_isHit h hd hl hw]
    rw [if_neg h6]
    by_cases h3 : S 292 nd = l + 1
    · rw [if_pos h3]
      by_cases h4 : a_H S nd l (S 298 nd)
      · rw [if_pos h4, if_neg (by decide), r_ends h h1 (by omega) (by omega) hl h3 ht (hb (by omega)) f7, e_obv, ee, if_pos ⟨h6, h3, h4⟩]
      · rw [if_neg h4, if_pos (by decide), es, if_neg (fun q => h4 q.2.2)]
    · rw [if_neg h3, es, if_neg (fun q => h3 q.2.1)]
theorem r_take {N : j_M} {S : a_S} {nd l mn ow wi : Nat} (h : RG S) (hu : UD S) (h1 : 1 ≤ S 1 0) (hq : S 1 7 ≤ 232) (hd : nd < 7) (hl : l < 8) (ht : S 6961 0 < 2147483000) (hb : nd < 6 → S 6730 nd ≤ S 1 5) (hc : S 14 (8 * nd + l) + mn ≤ 12) (ho : ow < 2) (hw : wi ≤ 10000) (m4 : N 204 4 = nI mn) (m5 : N 204 5 = nI ow) (m6 : N 204 6 = oI wi) : xX12_comes_196 (nI nd) (nI l) (nI (8 * nd + l)) (RS N S) = some (RS N (a_c272 (a_take S nd l mn ow wi) nd l)) := by
  have e := r_c272 (N := N) (S := a_take S nd l mn ow wi) (nd := nd) (l := l) (RG_take h hc hw) (UD_take hu) (by rw [ta_o (by omega)]; exact h1) (by rw [ta_o (by omega)]; exact hq) hd hl (by rw [ta_o (by omega)]; exact ht) (by rw [ta_o (by omega), ta_o (by omega)]; exact hb)
  have e2 : xX12_comes_234 (nI nd) (nI l) (nI (8 * nd + l)) (RS N (a_take2 (a_take1 S nd l mn) nd l ow)) = some (RS N (a_c272 (a_take S nd l mn ow wi) nd l)) := by
    rw [← e]
    unfold xX12_comes_234
    simp (disch := omega) only [e_gd, e_ix, e_oli, e_oml, e_obi, e_obv, e_add, e_mul, e_sub, e_eq, e_lt, e_le, e_eq0, e_0eq, e_lt0, e_0lt, e_le0, e_0le, e_m1, e_m1', e_m1lt, Nat.add_assoc, Nat.not_lt_zero, Nat.le_zero_eq, rs_o, m6, oI_m1]
    unfold a_take a_take3
    by_cases h0 : wi = 0
    · rw [if_pos h0, if_pos h0]
    · obtain ⟨u, rfl⟩ : ∃ u, wi = u + 1 := ⟨wi - 1, by omega⟩
      rw [if_neg h0, if_neg h0, Nat.add_sub_cancel]
      simp (disch := omega) only [e_gd, e_ix, e_oli, e_oml, e_obi, e_obv, e_add, e_mul, e_sub, e_eq, e_lt, e_le, e_eq0, e_0eq, e_lt0, e_0lt, e_le0, e_0le, e_m1, e_m1', e_m1lt, Nat.add_assoc, Nat.not_lt_zero, Nat.le_zero_eq, st_1, st_14, st_70, st_126, st_182, st_238, st_244, sm_292, so_292, st_292, st_298, st_304, st_310, st_316, st_358, st_400, st_442, st_484, st_526, st_532, sm_538, so_538, st_538, sm_586, sn_586, sp_586, st_586, st_2746, st_2752, st_3112, st_3118, st_3124, st_3130, st_6730, st_6736, st_6766, st_6814, st_6961, st_6962, st_7362, st_7363, st_7364, sv_6961, sv_7362, sv_7363, rs_o, m6, oI_s]
  unfold xX12_comes_196
  simp (disch := omega) only [e_gd, e_ix, e_oli, e_oml, e_obi, e_obv, e_add, e_mul, e_sub, e_eq, e_lt, e_le, e_eq0, e_0eq, e_lt0, e_0lt, e_le0, e_0le, e_m1, e_m1', e_m1lt, Nat.add_assoc, Nat.not_lt_zero, Nat.le_zero_eq, sr_1, sr_14, sr_70, sr_126, sr_182, sr_238, sr_244, sr_292, sr_298, sr_304, sr_310, sr_316, sr_358, sr_400, sr_442, sr_484, sr_526, sr_532, sr_538, so_586, sr_586, sr_2746, sr_2752, sr_3112, sr_3118, sr_3124, sr_3130, sr_6730, sr_6736, sr_6766, sr_6814, sr_6961, sr_6962, sr_7362, sr_7363, sr_7364, su_6961, su_7362, su_7363, rs_o, m4, m5, st_1, st_14, st_70, st_126, st_182, st_238, st_244, sm_292, so_292, st_292, st_298, st_304, st_310, st_316, st_358, st_400, st_442, st_484, st_526, st_532, sm_538, so_538, st_538, sm_586, sn_586, sp_586, st_586, st_2746, st_2752, st_3112, st_3118, st_3124, st_3130, st_6730, st_6736, st_6766, st_6814, st_6961, st_6962, st_7362, st_7363, st_7364, sv_6961, sv_7362, sv_7363]
  unfold a_take2 a_take1 at e2
  by_cases h0 : ow = 1
  · rw [if_pos h0] at e2 ⊢
    exact e2
  · rw [if_neg h0] at e2 ⊢
    exact e2
theorem r_c178 {N : j_M} {S : a_S} {nd l mn ow wi : Nat} (h : RG S) (hu : UD S) (h1 : 1 ≤ S 1 0) (hq : S 1 7 ≤ 232) (hd : nd < 6) (hl : l < 8) (ht : S 6961 0 < 2147483000) (hb : nd < 6 → S 6730 nd ≤ S 1 5) (hc : S 14 (8 * nd + l) + mn ≤ 12) (ho : ow < 2) (hw : wi ≤ 10000) (m4 : N 204 4 = nI mn) (m5 : N 204 5 = nI ow) (m6 : N 204 6 = oI wi) : xX12_comes_178 (nI nd) (nI l) (nI (8 * nd + l)) (RS N S) = some (RS N (a_c178 S nd l mn ow wi)) := by
  have f7 := UD_f7 h hu (c := nd) (l := l) hd hl
  unfold xX12_comes_178 a_c178
  simp (disch := omega) only [e_gd, e_ix, e_oli, e_oml, e_obi, e_obv, e_add, e_mul, e_sub, e_eq, e_lt, e_le, e_eq0, e_0eq, e_lt0, e_0lt, e_le0, e_0le, e_m1, e_m1', e_m1lt, Nat.add_assoc, Nat.not_lt_zero, Nat.le_zero_eq, sr_1, sr_14, sr_70, sr_126, sr_182, sr_238, sr_244, sr_292, sr_298, sr_304, sr_310, sr_316, sr_358, sr_400, sr_442, sr_484, sr_526, sr_532, sr_538, so_586, sr_586, sr_2746, sr_2752, sr_3112, sr_3118, sr_3124, sr_3130, sr_6730, sr_6736, sr_6766, sr_6814, sr_6961, sr_6962, sr_7362, sr_7363, sr_7364, su_6961, su_7362, su_7363]
  by_cases h0 : S 14 (8 * nd + l) = 0
  · rw [if_pos h0, if_pos h0, q_uses h hd hl f7, e_obv]
    exact r_take (RG_use h hl f7) (UD_use h hd hu f7) (by rw [us_o (by omega)]; exact h1) (by rw [us_o (by omega)]; exact hq) (by omega) hl (by rw [us_o (by omega)]; exact ht) (by rw [us_o (by omega), us_o (by omega)]; exact hb) (by rw [us_o (by omega)]; exact hc) ho hw m4 m5 m6
  · rw [if_neg h0, if_neg h0]
    exact r_take h hu h1 hq (by omega) hl ht hb hc ho hw m4 m5 m6
theorem r_eldest {N : j_M} {S : a_S} {nd l : Nat} (h : RG S) (hd : nd < 6) (hl : l < 8) : xX12_eldest (nI nd) (nI l) (RS N S) = some (nI (a_eld S nd l), RS N S) := by
  have e1 := g_l h 244 (8 * nd) (Or.inl rfl)
  have e2 := g_l h 244 (8 * nd + 1) (Or.inl rfl)
  unfold xX12_eldest a_eld
  simp (disch := omega) only [e_gd, e_ix, e_oli, e_oml, e_obi, e_obv, e_add, e_mul, e_sub, e_eq, e_lt, e_le, e_eq0, e_0eq, e_lt0, e_0lt, e_le0, e_0le, e_m1, e_m1', e_m1lt, Nat.add_assoc, Nat.not_lt_zero, Nat.le_zero_eq, m_place, Nat.add_zero, sr_1, sr_14, sr_70, sr_126, sr_182, sr_238, sr_244, sr_292, sr_298, sr_304, sr_310, sr_316, sr_358, sr_400, sr_442, sr_484, sr_526, sr_532, sr_538, so_586, sr_586, sr_2746, sr_2752, sr_3112, sr_3118, sr_3124, sr_3130, sr_6730, sr_6736, sr_6766, sr_6814, sr_6961, sr_6962, sr_7362, sr_7363, sr_7364, su_6961, su_7362, su_7363]
  split <;> rfl
theorem r_c82 {N : j_M} {S : a_S} {nd l mn ow wi : Nat} (h : RG S) (hu : UD S) (h1 : 1 ≤ S 1 0) (hq : S 1 7 ≤ 231) (hd : nd < 6) (hl : l < 8) (ht : S 6961 0 < 2147482000) (hb : nd < 6 → S 6730 nd ≤ S 1 5) (hc : S 14 (8 * nd + l) + mn ≤ 12) (ho : ow < 2) (hw : wi ≤ 10000) (m4 : N 204 4 = nI mn) (m5 : N 204 5 = nI ow) (m6 : N 204 6 = oI wi) : xX12_comes_82 (nI nd) (nI l) (nI (8 * nd + l)) (RS N S) = some (RS N (a_c82 S nd l mn ow wi)) := by
  have h8 := g_8 h 292 nd (by omega)
  have h8' := g_8 h 238 nd (by omega)
  have hr : S 1 2 ≤ 8 := (h 1 2).1 rfl |>.2.2.1 rfl
  have hct := g_14 h (8 * nd + l)
  have e0 := r_c178 (N := N) h hu h1 (by omega) hd hl (by omega) hb hc ho hw m4 m5 m6
  have hel : a_eld S nd l < 8 := by
    unfold a_eld
    split
    · exact g_l h 244 _ (Or.inl rfl)
    · exact g_l h 244 _ (Or.inl rfl)
  have hev := ev_le (S := S) (c := nd) (l := a_eld S nd l) (i := 8 * nd + l)
  have e1 := r_c178 (N := N) (S := a_evicts S nd (a_eld S nd l)) (nd := nd) (l := l) (mn := mn) (ow := ow) (wi := wi) (RG_evicts h (by omega) hd hel) (UD_evicts h hu (by omega) hd hel) (by rw [ev_1 (by omega)]; exact h1) (by rw [ev_7]; omega) hd hl (by rw [ev_t]; omega) (by rw [ev_o (by omega), ev_1 (by omega)]; exact hb) (by omega) ho hw m4 m5 m6
  have en := q_notes (N := N) (S := S) (w := 5) (c := nd) (l := l) (by omega)
  have n7 : a_notes S 5 nd l 1 7 = S 1 7 := an_o (by omega)
  have eb := r_brings (N := N) (S := a_notes S 5 nd l) (f := nd) (t := 6) (k := 3) (l := l) (mn := mn) (ow := ow) (wi := wi) (by omega) (by omega) (by omega) (by omega)
  have ev := r_evicts (N := N) (S := S) (c := nd) (l := a_eld S nd l) h (by omega) hd hel (by omega)
  unfold xX12_comes_82 a_c82
  simp (disch := omega) only [e_gd, e_ix, e_oli, e_oml, e_obi, e_obv, e_add, e_mul, e_sub, e_eq, e_lt, e_le, e_eq0, e_0eq, e_lt0, e_0lt, e_le0, e_0le, e_m1, e_m1', e_m1lt, Nat.add_assoc, Nat.not_lt_zero, Nat.le_zero_eq, sr_1, sr_14, sr_70, sr_126, sr_182, sr_238, sr_244, sr_292, sr_298, sr_304, sr_310, sr_316, sr_358, sr_400, sr_442, sr_484, sr_526, sr_532, sr_538, so_586, sr_586, sr_2746, sr_2752, sr_3112, sr_3118, sr_3124, sr_3130, sr_6730, sr_6736, sr_6766, sr_6814, sr_6961, sr_6962, sr_7362, sr_7363, sr_7364, su_6961, su_7362, su_7363, oI_eq, r_eldest h hd hl, ev, e0, e1, en, r_sends, rs_o, m4, m5, m6, eb]
  by_cases c1 : S 14 (8 * nd + l) = 0
  · rw [if_pos c1]
    by_cases c2 : S 238 nd < S 1 2
    · rw [if_pos c2, if_neg (by omega)]
    · have c5 : S 14 (8 * nd + l) = 0 ∧ S 1 2 ≤ S 238 nd := by omega
      rw [if_neg c2, if_pos c5]
      by_cases c3 : S 292 nd = l + 1
      · rw [if_pos c3, if_pos c3]
      · rw [if_neg c3, if_neg c3]
  · rw [if_neg c1, if_neg (by omega)]
theorem r_comes {N : j_M} {S : a_S} {nd f l mn ow wi : Nat} (h : RG S) (hu : UD S) (h1 : 1 ≤ S 1 0) (hq : S 1 7 ≤ 231) (hd : nd < 7) (hf : f < 7) (hl : l < 8) (ht : S 6961 0 < 2147482000) (hb : nd < 6 → S 6730 nd ≤ S 1 5) (hc : S 14 (8 * nd + l) + mn ≤ 12) (ho : ow < 2) (hw : wi ≤ 10000) (m0 : N 204 0 = nI f) (m3 : N 204 3 = nI l) (m4 : N 204 4 = nI mn) (m5 : N 204 5 = nI ow) (m6 : N 204 6 = oI wi) : xX12_comes (nI nd) (RS N S) = some (RS N (a_comes S nd f l mn ow wi)) := by
  unfold xX12_comes a_comes
  by_cases h6 : nd = 6
  · simp (disch := omega) only [e_gd, e_ix, e_oli, e_oml, e_obi, e_obv, e_add, e_mul, e_sub, e_eq, e_lt, e_le, e_eq0, e_0eq, e_lt0, e_0lt, e_le0, e_0le, e_m1, e_m1', e_m1lt, Nat.add_assoc, Nat.not_lt_zero, Nat.le_zero_eq, rs_o, m0, m3, m_place]
    rw [if_pos h6, if_pos h6]
    exact r_take h hu h1 (by omega) hd hl (by omega) hb hc ho hw m4 m5 m6
  · have e := r_c82 (N := N) (S := a_rem S nd f l) (nd := nd) (l := l) (mn := mn) (ow := ow) (wi := wi) (RG_rem h hf) (UD_rem hu) (by rw [re_o (by omega)]; exact h1) (by rw [re_o (by omega)]; exact hq) (by omega) hl (by rw [re_o (by omega)]; exact ht) (by rw [re_o (by omega), re_o (by omega)]; exact hb) (by rw [re_o (by omega)]; exact hc) ho hw m4 m5 m6
    unfold a_rem at e
    by_cases hf6 : f = 6
    · rw [if_pos hf6] at e
      unfold xX12_comes_49
      simp (disch := omega) only [e_gd, e_ix, e_oli, e_oml, e_obi, e_obv, e_add, e_mul, e_sub, e_eq, e_lt, e_le, e_eq0, e_0eq, e_lt0, e_0lt, e_le0, e_0le, e_m1, e_m1', e_m1lt, Nat.add_assoc, Nat.not_lt_zero, Nat.le_zero_eq, rs_o, m0, m3, m_place, st_1, st_14, st_70, st_126, st_182, st_238, st_244, sm_292, so_292, st_292, st_298, st_304, st_310, st_316, st_358, st_400, st_442, st_484, st_526, st_532, sm_538, so_538, st_538, sm_586, sn_586, sp_586, st_586, st_2746, st_2752, st_3112, st_3118, st_3124, st_3130, st_6730, st_6736, st_6766, st_6814, st_6961, st_6962, st_7362, st_7363, st_7364, sv_6961, sv_7362, sv_7363]
      rw [if_neg h6, if_pos hf6, if_neg h6, if_pos hf6, e]
      unfold a_rem
      rw [if_pos hf6]
    · rw [if_neg hf6] at e
      unfold xX12_comes_49
      simp (disch := omega) only [e_gd, e_ix, e_oli, e_oml, e_obi, e_obv, e_add, e_mul, e_sub, e_eq, e_lt, e_le, e_eq0, e_0eq, e_lt0, e_0lt, e_le0, e_0le, e_m1, e_m1', e_m1lt, Nat.add_assoc, Nat.not_lt_zero, Nat.le_zero_eq, rs_o, m0, m3, m_place, st_1, st_14, st_70, st_126, st_182, st_238, st_244, sm_292, so_292, st_292, st_298, st_304, st_310, st_316, st_358, st_400, st_442, st_484, st_526, st_532, sm_538, so_538, st_538, sm_586, sn_586, sp_586, st_586, st_2746, st_2752, st_3112, st_3118, st_3124, st_3130, st_6730, st_6736, st_6766, st_6814, st_6961, st_6962, st_7362, st_7363, st_7364, sv_6961, sv_7362, sv_7363, sr_1, sr_14, sr_70, sr_126, sr_182, sr_238, sr_244, sr_292, sr_298, sr_304, sr_310, sr_316, sr_358, sr_400, sr_442, sr_484, sr_526, sr_532, sr_538, so_586, sr_586, sr_2746, sr_2752, sr_3112, sr_3118, sr_3124, sr_3130, sr_6730, sr_6736, sr_6766, sr_6814, sr_6961, sr_6962, sr_7362, sr_7363, sr_7364, su_6961, su_7362, su_7363, sw_r, e_bit, e_or]
      rw [if_neg h6, if_neg hf6, if_neg h6, if_neg hf6, e]
      unfold a_rem
      rw [if_neg hf6]
/-! ===== for good, and its recall ===== -/
def a_asked1 (S : a_S) (nd f l nt wh : Nat) : a_S := sw (sw (sw (sw (sw S 316 (6 * nd + f) nt) 358 (6 * nd + f) 1) 400 (6 * nd + f) l) 442 (6 * nd + f) wh) 484 (6 * nd + f) 0
def a_asked (S : a_S) (nd f l nt wh : Nat) : a_S := if nt ≤ S 316 (6 * nd + f) then S else a_settles (a_asked1 S nd f l nt wh) nd l
def a_reca1 (S : a_S) (nd f nt : Nat) : a_S := sw (sw (sw S 316 (6 * nd + f) nt) 358 (6 * nd + f) 0) 484 (6 * nd + f) 0
def a_reca (S : a_S) (nd f l nt : Nat) : a_S := if nt < S 316 (6 * nd + f) then S else a_settles (a_reca1 S nd f nt) nd l
theorem ak1_o {S : a_S} {nd f l nt wh r i : Nat} (h : r ≠ 316 ∧ r ≠ 358 ∧ r ≠ 400 ∧ r ≠ 442 ∧ r ≠ 484) : a_asked1 S nd f l nt wh r i = S r i := by
  unfold a_asked1
  rw [sw_r (by omega), sw_r (by omega), sw_r (by omega), sw_r (by omega), sw_r (by omega)]
theorem rc1_o {S : a_S} {nd f nt r i : Nat} (h : r ≠ 316 ∧ r ≠ 358 ∧ r ≠ 484) : a_reca1 S nd f nt r i = S r i := by
  unfold a_reca1
  rw [sw_r (by omega), sw_r (by omega), sw_r (by omega)]
theorem RG_asked1 {S : a_S} {nd f l nt wh : Nat} (h : RG S) (hl : l < 8) (hn : nt ≤ 10100) (hw : wh < 4) : RG (a_asked1 S nd f l nt wh) := by
  unfold a_asked1
  exact RG_sw (RG_sw (RG_sw (RG_sw (RG_sw h (by unfold rg; omega)) (by unfold rg; omega)) (by unfold rg; omega)) (by unfold rg; omega)) (by unfold rg; omega)
theorem RG_reca1 {S : a_S} {nd f nt : Nat} (h : RG S) (hn : nt ≤ 10100) : RG (a_reca1 S nd f nt) := by
  unfold a_reca1
  exact RG_sw (RG_sw (RG_sw h (by unfold rg; omega)) (by unfold rg; omega)) (by unfold rg; omega)
theorem r_asked {N : j_M} {S : a_S} {nd f l nt wh : Nat} (h : RG S) (hq : S 1 7 < 240) (hd : nd < 7) (hf : f < 6) (hl : l < 8) (hn : nt ≤ 10100) (hw : wh < 4) (m0 : N 204 0 = nI f) (m3 : N 204 3 = nI l) (m7 : N 204 7 = nI nt) (m8 : N 204 8 = nI wh) : xX12_isAsked (nI nd) (RS N S) = some (RS N (a_asked S nd f l nt wh)) := by
  have hs := g_t h 316 (6 * nd + f) (Or.inl rfl)
  have es := q_settles (N := N) (S := a_asked1 S nd f l nt wh) (nd := nd) (l := l) (RG_asked1 h hl hn hw) (by rw [ak1_o (by omega)]; exact hq) hd hl
  unfold a_asked1 at es
  unfold xX12_isAsked a_asked a_asked1
  simp (disch := omega) only [e_gd, e_ix, e_oli, e_oml, e_obi, e_obv, e_add, e_mul, e_sub, e_eq, e_lt, e_le, e_eq0, e_0eq, e_lt0, e_0lt, e_le0, e_0le, e_m1, e_m1', e_m1lt, Nat.add_assoc, Nat.not_lt_zero, Nat.le_zero_eq, rs_o, m0, m3, m7, m8, sr_1, sr_14, sr_70, sr_126, sr_182, sr_238, sr_244, sr_292, sr_298, sr_304, sr_310, sr_316, sr_358, sr_400, sr_442, sr_484, sr_526, sr_532, sr_538, so_586, sr_586, sr_2746, sr_2752, sr_3112, sr_3118, sr_3124, sr_3130, sr_6730, sr_6736, sr_6766, sr_6814, sr_6961, sr_6962, sr_7362, sr_7363, sr_7364, su_6961, su_7362, su_7363, st_1, st_14, st_70, st_126, st_182, st_238, st_244, sm_292, so_292, st_292, st_298, st_304, st_310, st_316, st_358, st_400, st_442, st_484, st_526, st_532, sm_538, so_538, st_538, sm_586, sn_586, sp_586, st_586, st_2746, st_2752, st_3112, st_3118, st_3124, st_3130, st_6730, st_6736, st_6766, st_6814, st_6961, st_6962, st_7362, st_7363, st_7364, sv_6961, sv_7362, sv_7363, es]
  by_cases c1 : nt ≤ S 316 (6 * nd + f)
  · rw [if_neg (by omega), if_pos c1]
  · rw [if_pos (by omega), if_neg c1]
theorem r_reca {N : j_M} {S : a_S} {nd f l nt : Nat} (h : RG S) (hq : S 1 7 < 240) (hd : nd < 7) (hf : f < 6) (hl : l < 8) (hn : nt ≤ 10100) (m0 : N 204 0 = nI f) (m3 : N 204 3 = nI l) (m7 : N 204 7 = nI nt) : xX12_isRecalled (nI nd) (RS N S) = some (RS N (a_reca S nd f l nt)) := by
  have hs := g_t h 316 (6 * nd + f) (Or.inl rfl)
  have es := q_settles (N := N) (S := a_reca1 S nd f nt) (nd := nd) (l := l) (RG_reca1 h hn) (by rw [rc1_o (by omega)]; exact hq) hd hl
  unfold a_reca1 at es
  unfold xX12_isRecalled a_reca a_reca1
  simp (disch := omega) only [e_gd, e_ix, e_oli, e_oml, e_obi, e_obv, e_add, e_mul, e_sub, e_eq, e_lt, e_le, e_eq0, e_0eq, e_lt0, e_0lt, e_le0, e_0le, e_m1, e_m1', e_m1lt, Nat.add_assoc, Nat.not_lt_zero, Nat.le_zero_eq, rs_o, m0, m3, m7, sr_1, sr_14, sr_70, sr_126, sr_182, sr_238, sr_244, sr_292, sr_298, sr_304, sr_310, sr_316, sr_358, sr_400, sr_442, sr_484, sr_526, sr_532, sr_538, so_586, sr_586, sr_2746, sr_2752, sr_3112, sr_3118, sr_3124, sr_3130, sr_6730, sr_6736, sr_6766, sr_6814, sr_6961, sr_6962, sr_7362, sr_7363, sr_7364, su_6961, su_7362, su_7363, st_1, st_14, st_70, st_126, st_182, st_238, st_244, sm_292, so_292, st_292, st_298, st_304, st_310, st_316, st_358, st_400, st_442, st_484, st_526, st_532, sm_538, so_538, st_538, sm_586, sn_586, sp_586, st_586, st_2746, st_2752, st_3112, st_3118, st_3124, st_3130, st_6730, st_6736, st_6766, st_6814, st_6961, st_6962, st_7362, st_7363, st_7364, sv_6961, sv_7362, sv_7363, es]
  by_cases c1 : nt < S 316 (6 * nd + f)
  · rw [if_neg (by omega), if_pos c1]
  · rw [if_pos (by omega), if_neg c1]
