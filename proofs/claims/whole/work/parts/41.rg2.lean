/-! ===== giving keeps the ranges; a hit is done ===== -/
theorem RG_gives1 {S : a_S} {nd t l mn ow da : Nat} (h : RG S) (hq : S 1 7 < 240) (hd : nd < 7) (ht : t < 7) (hl : l < 8) (how : ow < 2) (hm : mn ≤ S 14 (8 * nd + l)) : RG (a_gives1 S nd t l mn ow da) := by
  have h1 := g_14 h (8 * nd + l)
  have h2 := g_d h 182 (8 * nd + l) (Or.inl rfl)
  have e : RG (a_gives0 S nd t l mn ow da) := by
    unfold a_gives0
    refine RG_sw (RG_send h hq hd ht (by omega) hl (by omega) how (by split <;> omega) (by omega) (by omega)) ?_
    unfold rg; omega
  unfold a_gives1
  split
  · exact e
  · exact RG_sw e (by unfold rg; omega)
theorem RG_gives {S : a_S} {nd t l mn ow da : Nat} (h : RG S) (hq : S 1 7 < 240) (hd : nd < 7) (ht : t < 7) (hl : l < 8) (how : ow < 2) (hm : mn ≤ S 14 (8 * nd + l)) : RG (a_gives S nd t l mn ow da) := by
  have e1 := RG_gives1 (da := da) h hq hd ht hl how hm
  have e2 : RG (a_gives2 S nd t l mn ow da) := by
    unfold a_gives2
    exact RG_sw (RG_sw e1 (by unfold rg; omega)) (by unfold rg; omega)
  unfold a_gives
  split
  · split
    · exact e2
    · exact RG_forget e2
  · exact e1
theorem RG_givesAll {S : a_S} {nd t l : Nat} (h : RG S) (hq : S 1 7 < 240) (hd : nd < 7) (ht : t < 7) (hl : l < 8) : RG (a_givesAll S nd t l) :=
  RG_gives h hq hd ht hl (g_b h 70 _ (Or.inl rfl)) (Nat.le_refl _)
theorem g_turn {S : a_S} {nd l : Nat} : a_turn S nd l ≤ S 1 0 := by
  have := fr_le (P := fun c => S 358 (6 * nd + c) = 1 ∧ S 400 (6 * nd + c) = l) (S 1 0) 0
  unfold a_turn; omega
theorem RG_settles {S : a_S} {nd l : Nat} (h : RG S) (hq : S 1 7 < 240) (hd : nd < 7) (hl : l < 8) : RG (a_settles S nd l) := by
  have h1 := g_n h
  have h2 := g_turn (S := S) (nd := nd) (l := l)
  unfold a_settles
  split
  · exact h
  · split
    · exact RG_givesAll h hq hd (by omega) hl
    · split
      · exact RG_gives h hq hd (by omega) hl (g_b h 70 _ (Or.inl rfl)) (Nat.sub_le _ 1)
      · split
        · exact h
        · exact RG_givesAll h hq hd (by omega) hl
/-- with ranges alone -/
theorem q_gives {N : j_M} {S : a_S} {nd t l mn ow da : Nat} (h : RG S) (hq : S 1 7 < 240) (hd : nd < 7) (ht : t < 7) (hl : l < 8) (how : ow < 2) (hda : da < 2) (hm : mn ≤ S 14 (8 * nd + l)) : xX12_gives (nI nd) (nI t) (nI l) (nI mn) (nI ow) (nI da) (RS N S) = some (RS N (a_gives S nd t l mn ow da)) :=
  r_gives hq hd ht hl how hda hm (by have := g_14 h (8 * nd + l); omega) (g_d h 182 _ (Or.inl rfl)) (fun _ => g_8 h 238 _ (Or.inl rfl)) (fun i _ => g_l h 244 i (Or.inl rfl))
theorem q_givesAll {N : j_M} {S : a_S} {nd t l : Nat} (h : RG S) (hq : S 1 7 < 240) (hd : nd < 7) (ht : t < 7) (hl : l < 8) : xX12_givesAll (nI nd) (nI t) (nI l) (RS N S) = some (RS N (a_givesAll S nd t l)) :=
  r_givesAll hq hd ht hl (g_b h 70 _ (Or.inl rfl)) (by have := g_14 h (8 * nd + l); omega) (g_d h 182 _ (Or.inl rfl)) (fun _ => g_8 h 238 _ (Or.inl rfl)) (fun i _ => g_l h 244 i (Or.inl rfl))
theorem q_settles {N : j_M} {S : a_S} {nd l : Nat} (h : RG S) (hq : S 1 7 < 240) (hd : nd < 7) (hl : l < 8) : xX12_settles (nI nd) (nI l) (RS N S) = some (RS N (a_settles S nd l)) :=
  r_settles (g_n h) (fun i _ => g_b h 358 i (by omega)) (fun i _ => g_l h 400 i (by omega)) (fun i _ => g_4 h 442 i (by omega)) hq hd hl (g_b h 70 _ (Or.inl rfl)) (by have := g_14 h (8 * nd + l); omega) (g_d h 182 _ (Or.inl rfl)) (fun _ => g_8 h 238 _ (Or.inl rfl)) (fun i _ => g_l h 244 i (Or.inl rfl))
theorem q_turn {N : j_M} {S : a_S} {nd l : Nat} (h : RG S) (hd : nd < 7) (hl : l < 8) : xX12_turn (nI nd) (nI l) (RS N S) = some (oI (a_turn S nd l), RS N S) :=
  r_turn (g_n h) hd hl (fun i _ => g_b h 358 i (by omega)) (fun i _ => g_l h 400 i (by omega))
theorem q_uses {N : j_M} {S : a_S} {c l : Nat} (h : RG S) (hc : c < 6) (hl : l < 8) (h7 : a_forget S c l 238 c ≤ 7) : xX12_uses (nI c) (nI l) (RS N S) = some (RS N (a_use S c l)) :=
  r_uses (g_8 h 238 _ (Or.inl rfl)) hc hl (fun i _ => g_l h 244 i (Or.inl rfl)) h7
def a_sees (S : a_S) (c v : Nat) : a_S := if S 2746 c = 60 then S else sw (sw S 2752 (60 * c + S 2746 c) v) 2746 c (S 2746 c + 1)
theorem g_s {S : a_S} (h : RG S) (c : Nat) : S 2746 c ≤ 60 := (h 2746 c).2.2.2.2.2.2.2.2.2.1 rfl
theorem r_sees {N : j_M} {S : a_S} {c v : Nat} (h : RG S) (hc : c < 6) : xX12_sees (nI c) (nI v) (RS N S) = some (RS N (a_sees S c v)) := by
  have h1 := g_s h c
  unfold a_sees
  by_cases h2 : S 2746 c = 60
  · simp (disch := omega) only [xX12_sees, e_gd, e_ix, e_oli, e_oml, e_obi, e_obv, e_add, e_mul, e_sub, e_eq, e_lt, e_le, e_eq0, e_0eq, e_lt0, e_0lt, e_le0, e_0le, e_m1, e_m1', e_m1lt, Nat.add_assoc, Nat.not_lt_zero, Nat.le_zero_eq, sr_1, sr_14, sr_70, sr_126, sr_182, sr_238, sr_244, sr_292, sr_298, sr_304, sr_310, sr_316, sr_358, sr_400, sr_442, sr_484, sr_526, sr_532, sr_538, so_586, sr_586, sr_2746, sr_2752, sr_3112, sr_3118, sr_3124, sr_3130, sr_6730, sr_6736, sr_6766, sr_6814, sr_6961, sr_6962, sr_7362, sr_7363, sr_7364, su_6961, su_7362, su_7363, if_pos]
  · rw [if_neg h2]
    unfold xX12_sees
    simp (disch := omega) only [e_gd, e_ix, e_oli, e_oml, e_obi, e_obv, e_add, e_mul, e_sub, e_eq, e_lt, e_le, e_eq0, e_0eq, e_lt0, e_0lt, e_le0, e_0le, e_m1, e_m1', e_m1lt, Nat.add_assoc, Nat.not_lt_zero, Nat.le_zero_eq, sr_1, sr_14, sr_70, sr_126, sr_182, sr_238, sr_244, sr_292, sr_298, sr_304, sr_310, sr_316, sr_358, sr_400, sr_442, sr_484, sr_526, sr_532, sr_538, so_586, sr_586, sr_2746, sr_2752, sr_3112, sr_3118, sr_3124, sr_3130, sr_6730, sr_6736, sr_6766, sr_6814, sr_6961, sr_6962, sr_7362, sr_7363, sr_7364, su_6961, su_7362, su_7363, st_1, st_14, st_70, st_126, st_182, st_238, st_244, sm_292, so_292, st_292, st_298, st_304, st_310, st_316, st_358, st_400, st_442, st_484, st_526, st_532, sm_538, so_538, st_538, sm_586, sn_586, sp_586, st_586, st_2746, st_2752, st_3112, st_3118, st_3124, st_3130, st_6730, st_6736, st_6766, st_6814, st_6961, st_6962, st_7362, st_7363, st_7364, sv_6961, sv_7362, sv_7363, sw_r, if_neg]
theorem RG_sees {S : a_S} {c v : Nat} (h : RG S) : RG (a_sees S c v) := by
  have h1 := g_s h c
  unfold a_sees
  split
  · exact h
  · exact RG_sw (RG_sw h (by unfold rg; omega)) (by unfold rg; omega)
