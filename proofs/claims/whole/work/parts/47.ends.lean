/-! ===== a miss ends ===== -/
theorem g_tk {S : a_S} (h : RG S) : S 1 5 ≤ 10100 := (h 1 5).1 rfl |>.2.2.2.2.2.1 rfl
theorem g_lg {S : a_S} (h : RG S) (c : Nat) : S 6736 (5 * c + 3) ≤ 10100 := (h 6736 (5 * c + 3)).2.2.2.2.2.2.2.2.2.2.2.1 rfl (by omega)
theorem fo_o {S : a_S} {c l r i : Nat} (h : r ≠ 238 ∧ r ≠ 244) : a_forget S c l r i = S r i := by
  unfold a_forget
  split
  · rfl
  · unfold a_shift
    rw [if_neg h.2, sw_r h.1]
theorem us_o {S : a_S} {c l r i : Nat} (h : r ≠ 238 ∧ r ≠ 244) : a_use S c l r i = S r i := by
  unfold a_use
  rw [sw_r h.1, sw_r h.2, fo_o h]
theorem ad_o {S : a_S} {c l w v r i : Nat} (h : r ≠ 182 ∧ r ≠ 2746 ∧ r ≠ 2752 ∧ r ≠ 238 ∧ r ≠ 244) : a_does S c l w v r i = S r i := by
  unfold a_does
  rw [us_o (by omega), ad2_o (by omega)]
theorem RG_does {S : a_S} {c l w v : Nat} (h : RG S) (hl : l < 8) (hv : v < 10000) (h7 : a_forget S c l 238 c ≤ 7) : RG (a_does S c l w v) := by
  unfold a_does
  exact RG_use (RG_does2 h hv) hl (by rw [fo_238, ad2_used, ad2_o (by omega), ← fo_238]; exact h7)
def a_ends1 (S : a_S) (c l : Nat) : a_S := a_does (a_notes S 2 c l) c l (S 298 c) (S 304 c)
def a_ends2 (S : a_S) (c l : Nat) : a_S := sw (sw (sw (sw (a_ends1 S c l) 292 c 0) 298 c 0) 304 c 0) 310 c 0
def a_ends3 (S : a_S) (c l : Nat) : a_S := sw (sw (sw (sw (a_ends2 S c l) 1 10 (S 1 10 + 1)) 6736 (5 * c + 1) (S 6736 (5 * c + 1) + 1)) 6736 (5 * c + 2) (S 6736 (5 * c + 2) + (S 1 5 - S 6730 c))) 6736 (5 * c + 3) (max (S 6736 (5 * c + 3)) (S 1 5 - S 6730 c))
def a_ends4 (S : a_S) (c l : Nat) : a_S := a_mk (sw (a_ends3 S c l) 358 (6 * c + c) 0) c l 0
def a_ends (S : a_S) (c l : Nat) : a_S := if S 310 c = 1 then a_tells c 5 l 0 7 0 (a_ends4 S c l) else a_ends3 S c l
theorem ae1_o {S : a_S} {c l r i : Nat} (h : r ≠ 182 ∧ r ≠ 2746 ∧ r ≠ 2752 ∧ r ≠ 238 ∧ r ≠ 244 ∧ r ≠ 6961 ∧ r ≠ 6962) : a_ends1 S c l r i = S r i := by
  unfold a_ends1
  rw [ad_o (by omega), an_o (by omega)]
theorem ae2_o {S : a_S} {c l r i : Nat} (h : r ≠ 182 ∧ r ≠ 2746 ∧ r ≠ 2752 ∧ r ≠ 238 ∧ r ≠ 244 ∧ r ≠ 6961 ∧ r ≠ 6962 ∧ r ≠ 292 ∧ r ≠ 298 ∧ r ≠ 304 ∧ r ≠ 310) : a_ends2 S c l r i = S r i := by
  unfold a_ends2
  rw [sw_r (by omega), sw_r (by omega), sw_r (by omega), sw_r (by omega), ae1_o (by omega)]
theorem ae3_o {S : a_S} {c l r i : Nat} (h : r ≠ 182 ∧ r ≠ 2746 ∧ r ≠ 2752 ∧ r ≠ 238 ∧ r ≠ 244 ∧ r ≠ 6961 ∧ r ≠ 6962 ∧ r ≠ 292 ∧ r ≠ 298 ∧ r ≠ 304 ∧ r ≠ 310 ∧ r ≠ 1 ∧ r ≠ 6736) : a_ends3 S c l r i = S r i := by
  unfold a_ends3
  rw [sw_r (by omega), sw_r (by omega), sw_r (by omega), sw_r (by omega), ae2_o (by omega)]
theorem ae3_1 {S : a_S} {c l i : Nat} (h : i ≠ 10) : a_ends3 S c l 1 i = S 1 i := by
  unfold a_ends3
  rw [sw_r (by omega), sw_r (by omega), sw_r (by omega), sw_i h, ae2_o (by omega)]
theorem ae4_o {S : a_S} {c l r i : Nat} (h : r ≠ 182 ∧ r ≠ 2746 ∧ r ≠ 2752 ∧ r ≠ 238 ∧ r ≠ 244 ∧ r ≠ 6961 ∧ r ≠ 6962 ∧ r ≠ 292 ∧ r ≠ 298 ∧ r ≠ 304 ∧ r ≠ 310 ∧ r ≠ 1 ∧ r ≠ 6736 ∧ r ≠ 358 ∧ r ≠ 484) : a_ends4 S c l r i = S r i := by
  unfold a_ends4
  rw [mk_o (by omega), sw_r (by omega), ae3_o (by omega)]
theorem ae4_1 {S : a_S} {c l i : Nat} (h : i ≠ 10) : a_ends4 S c l 1 i = S 1 i := by
  unfold a_ends4
  rw [mk_o (by omega), sw_r (by omega), ae3_1 h]
theorem an_used {S : a_S} {w c l d x : Nat} : a_used (a_notes S w c l) d x = a_used S d x := by
  unfold a_used
  simp (disch := omega) only [an_o]
theorem an_f7 {S : a_S} {w c l d x : Nat} : a_forget (a_notes S w c l) d x 238 d = a_forget S d x 238 d := by
  rw [fo_238, an_used, an_o (by omega), ← fo_238]
theorem RG_ends1 {S : a_S} {c l : Nat} (h : RG S) (hl : l < 8) (h7 : a_forget S c l 238 c ≤ 7) : RG (a_ends1 S c l) := by
  unfold a_ends1
  exact RG_does (RG_notes h) hl (g_d h 304 c (Or.inr rfl)) (by rw [an_f7]; exact h7)
theorem RG_ends3 {S : a_S} {c l : Nat} (h : RG S) (hl : l < 8) (h7 : a_forget S c l 238 c ≤ 7) : RG (a_ends3 S c l) := by
  have e1 := g_tk h
  have e2 := g_lg h c
  have e3 : max (S 6736 (5 * c + 3)) (S 1 5 - S 6730 c) ≤ 10100 := Nat.max_le.2 ⟨e2, by omega⟩
  unfold a_ends3 a_ends2
  exact RG_sw (RG_sw (RG_sw (RG_sw (RG_sw (RG_sw (RG_sw (RG_sw (RG_ends1 h hl h7) (by unfold rg; omega)) (by unfold rg; omega)) (by unfold rg; omega)) (by unfold rg; omega)) (by unfold rg; omega)) (by unfold rg; omega)) (by unfold rg; omega)) (by unfold rg; omega)
theorem RG_ends4 {S : a_S} {c l : Nat} (h : RG S) (hl : l < 8) (h7 : a_forget S c l 238 c ≤ 7) : RG (a_ends4 S c l) := by
  unfold a_ends4
  exact RG_mk (RG_sw (RG_ends3 h hl h7) (by unfold rg; omega))
theorem RG_ends {S : a_S} {c l : Nat} (h : RG S) (hq : S 1 7 ≤ 233) (hc : c < 6) (hl : l < 8) (h7 : a_forget S c l 238 c ≤ 7) : RG (a_ends S c l) ∧ a_ends S c l 1 7 ≤ S 1 7 + 7 := by
  unfold a_ends
  split
  · have e := RG_tells (l := l) hc (show 5 < 6 by omega) hl (show 0 < 4 by omega) 7 0 (a_ends4 S c l) (RG_ends4 h hl h7) (by rw [ae4_1 (by omega)]; omega) (by omega)
    rw [ae4_1 (by omega)] at e
    exact e
  · exact ⟨RG_ends3 h hl h7, by rw [ae3_1 (by omega)]; omega⟩
theorem r_ends {N : j_M} {S : a_S} {c l : Nat} (h : RG S) (h1 : 1 ≤ S 1 0) (hq : S 1 7 ≤ 233) (hc : c < 6) (hl : l < 8) (hm : S 292 c = l + 1) (ht : S 6961 0 < 2147483000) (hb : S 6730 c ≤ S 1 5) (h7 : a_forget S c l 238 c ≤ 7) : xX12_ends (nI c) (RS N S) = some (RS N (a_ends S c l)) := by
  have hv := g_d h 304 c (Or.inr rfl)
  have hw := g_4 h 298 c (Or.inl rfl)
  have hg := g_b h 310 c (by omega)
  have hk := g_n h
  have htk := g_tk h
  have hlg := g_lg h c
  have e210 : ∀ z, z = S 310 c → xX12_ends_210 (nI c) (nI l) (nI z) (RS N (a_ends3 S c l)) = some (RS N (a_ends S c l)) := by
    intro z hz
    unfold xX12_ends_210 a_ends
    by_cases hz1 : z = 1
    · have g4 : RG (sw (a_ends3 S c l) 358 (6 * c + c) 0) := RG_sw (RG_ends3 h hl h7) (by unfold rg; omega)
      have n0 : sw (a_ends3 S c l) 358 (6 * c + c) 0 1 0 = S 1 0 := by rw [sw_r (by omega), ae3_1 (by omega)]
      have em := r_mk (N := N) hc hl (S 1 0) (1000000 - (S 1 0 + 1)) 0 (sw (a_ends3 S c l) 358 (6 * c + c) 0) g4 (by rw [n0]; omega)
      have et := r_tellsAll (N := N) (S := a_ends4 S c l) (c := c) (k := 5) (l := l) (wh := 0) (RG_ends4 h hl h7) (by rw [ae4_1 (by omega)]; exact h1) (by rw [ae4_1 (by omega)]; omega) hc (by omega) hl (by omega)
      simp (disch := omega) only [e_gd, e_ix, e_oli, e_oml, e_obi, e_obv, e_add, e_mul, e_sub, e_eq, e_lt, e_le, e_eq0, e_0eq, e_lt0, e_0lt, e_le0, e_0le, e_m1, e_m1', e_m1lt, Nat.add_assoc, Nat.not_lt_zero, Nat.le_zero_eq, st_1, st_14, st_70, st_126, st_182, st_238, st_244, sm_292, so_292, st_292, st_298, st_304, st_310, st_316, st_358, st_400, st_442, st_484, st_526, st_532, sm_538, so_538, st_538, sm_586, sn_586, sp_586, st_586, st_2746, st_2752, st_3112, st_3118, st_3124, st_3130, st_6730, st_6736, st_6766, st_6814, st_6961, st_6962, st_7362, st_7363, st_7364, sv_6961, sv_7362, sv_7363]
      rw [if_neg (by omega), if_pos (by omega), fu_s (S 1 0 + 1) (by omega), ← Nat.add_assoc, em]
      exact et
    · simp (disch := omega) only [e_gd, e_ix, e_oli, e_oml, e_obi, e_obv, e_add, e_mul, e_sub, e_eq, e_lt, e_le, e_eq0, e_0eq, e_lt0, e_0lt, e_le0, e_0le, e_m1, e_m1', e_m1lt, Nat.add_assoc, Nat.not_lt_zero, Nat.le_zero_eq]
      rw [if_pos (by omega), if_neg (by omega)]
  have e63 : ∀ z, z = S 310 c → xX12_ends_63 (nI c) (nI l) (nI z) (RS N (a_ends1 S c l)) = some (RS N (a_ends S c l)) := by
    intro z hz
    have e := e210 z hz
    have f1 : a_ends1 S c l 1 10 = S 1 10 := ae1_o (by omega)
    have f2 : a_ends1 S c l 1 5 = S 1 5 := ae1_o (by omega)
    have f3 : a_ends1 S c l 6730 c = S 6730 c := ae1_o (by omega)
    have f4 : ∀ i, a_ends1 S c l 6736 i = S 6736 i := fun i => ae1_o (by omega)
    unfold xX12_ends_63
    simp (disch := omega) only [e_gd, e_ix, e_oli, e_oml, e_obi, e_obv, e_add, e_mul, e_sub, e_eq, e_lt, e_le, e_eq0, e_0eq, e_lt0, e_0lt, e_le0, e_0le, e_m1, e_m1', e_m1lt, Nat.add_assoc, Nat.not_lt_zero, Nat.le_zero_eq, st_1, st_14, st_70, st_126, st_182, st_238, st_244, sm_292, so_292, st_292, st_298, st_304, st_310, st_316, st_358, st_400, st_442, st_484, st_526, st_532, sm_538, so_538, st_538, sm_586, sn_586, sp_586, st_586, st_2746, st_2752, st_3112, st_3118, st_3124, st_3130, st_6730, st_6736, st_6766, st_6814, st_6961, st_6962, st_7362, st_7363, st_7364, sv_6961, sv_7362, sv_7363, sr_1, sr_14, sr_70, sr_126, sr_182, sr_238, sr_244, sr_292, sr_298, sr_304, sr_310, sr_316, sr_358, sr_400, sr_442, sr_484, sr_526, sr_532, sr_538, so_586, sr_586, sr_2746, sr_2752, sr_3112, sr_3118, sr_3124, sr_3130, sr_6730, sr_6736, sr_6766, sr_6814, sr_6961, sr_6962, sr_7362, sr_7363, sr_7364, su_6961, su_7362, su_7363, sw_r, sw_i, f1, f2, f3, f4]
    unfold a_ends3 a_ends2 at e
    by_cases h9 : S 1 5 - S 6730 c ≤ S 6736 (5 * c + 3)
    · rw [if_pos h9]
      rw [Nat.max_eq_left h9, sw_same (by simp (disch := omega) only [sw_r, sw_i, f4])] at e
      exact e
    · rw [if_neg h9]
      rw [Nat.max_eq_right (by omega)] at e
      exact e
  have g9 := RG_notes (w := 2) (c := c) (l := l) h
  have ed := r_does (N := N) (S := a_notes S 2 c l) (c := c) (l := l) (w := S 298 c) (v := S 304 c) g9 hc hl hw hv (by rw [an_f7]; exact h7)
  have en := q_notes (N := N) (S := S) (w := 2) (c := c) (l := l) ht
  have f5 : a_ends1 S c l 310 c = S 310 c := ae1_o (by omega)
  unfold a_ends1 at f5 e63
  unfold xX12_ends
  simp (disch := omega) only [e_gd, e_ix, e_oli, e_oml, e_obi, e_obv, e_add, e_mul, e_sub, e_eq, e_lt, e_le, e_eq0, e_0eq, e_lt0, e_0lt, e_le0, e_0le, e_m1, e_m1', e_m1lt, Nat.add_assoc, Nat.not_lt_zero, Nat.le_zero_eq, sr_1, sr_14, sr_70, sr_126, sr_182, sr_238, sr_244, sr_292, sr_298, sr_304, sr_310, sr_316, sr_358, sr_400, sr_442, sr_484, sr_526, sr_532, sr_538, so_586, sr_586, sr_2746, sr_2752, sr_3112, sr_3118, sr_3124, sr_3130, sr_6730, sr_6736, sr_6766, sr_6814, sr_6961, sr_6962, sr_7362, sr_7363, sr_7364, su_6961, su_7362, su_7363, hm, oI_s, en, an_o, ed, f5]
  by_cases h3 : S 310 c = 1
  · rw [if_pos h3, e63 1 (by omega)]
  · rw [if_neg h3, e63 0 (by omega)]
