/-! ===== UD is kept; messages that come ===== -/
theorem UD_gives {S : a_S} {nd t l mn ow da : Nat} (h : RG S) (hu : UD S) (hq : S 1 7 < 240) (hd : nd < 7) (ht : t < 7) (hl : l < 8) (how : ow < 2) (hm : mn ≤ S 14 (8 * nd + l)) : UD (a_gives S nd t l mn ow da) := by
  have e1 := RG_gives1 (da := da) h hq hd ht hl how hm
  have e2 : RG (a_gives2 S nd t l mn ow da) := by
    unfold a_gives2
    exact RG_sw (RG_sw e1 (by unfold rg; omega)) (by unfold rg; omega)
  have u2 : UD (a_gives2 S nd t l mn ow da) := UD_c hu (fun i => ag2_o (by omega)) (fun i => ag2_o (by omega))
  unfold a_gives
  split
  · split
    · exact u2
    · exact UD_forget e2 (by omega) u2
  · exact UD_c hu (fun i => ag1_o (by omega)) (fun i => ag1_o (by omega))
theorem UD_givesAll {S : a_S} {nd t l : Nat} (h : RG S) (hu : UD S) (hq : S 1 7 < 240) (hd : nd < 7) (ht : t < 7) (hl : l < 8) : UD (a_givesAll S nd t l) :=
  UD_gives h hu hq hd ht hl (g_b h 70 _ (Or.inl rfl)) (Nat.le_refl _)
theorem UD_notes {S : a_S} {w c l : Nat} (hu : UD S) : UD (a_notes S w c l) := UD_c hu (fun i => an_o (by omega)) (fun i => an_o (by omega))
theorem UD_evicts {S : a_S} {c l : Nat} (h : RG S) (hu : UD S) (hq : S 1 7 < 240) (hc : c < 6) (hl : l < 8) : UD (a_evicts S c l) := by
  have e := UD_givesAll (nd := c) (t := 6) (l := l) (RG_notes (w := 4) (c := c) (l := l) h) (UD_notes hu) (by rw [an_o (by omega)]; exact hq) (by omega) (by omega) hl
  exact UD_c e (fun i => by unfold a_evicts; rw [sw_r (by omega)]) (fun i => by unfold a_evicts; rw [sw_r (by omega)])
theorem UD_settles {S : a_S} {nd l : Nat} (h : RG S) (hu : UD S) (hq : S 1 7 < 240) (hd : nd < 7) (hl : l < 8) : UD (a_settles S nd l) := by
  have h1 := g_n h
  have h2 := g_turn (S := S) (nd := nd) (l := l)
  unfold a_settles
  split
  · exact hu
  · split
    · exact UD_givesAll h hu hq hd (by omega) hl
    · split
      · exact UD_gives h hu hq hd (by omega) hl (g_b h 70 _ (Or.inl rfl)) (Nat.sub_le _ 1)
      · split
        · exact hu
        · exact UD_givesAll h hu hq hd (by omega) hl
theorem fo_not {S : a_S} {c l : Nat} (hr : RG S) (hc : c < 6) (h : UD S) : ∀ k, k < a_forget S c l 238 c → a_forget S c l 244 (8 * c + k) ≠ l := by
  intro k hk
  have h8 := g_8 hr 238 c (Or.inl rfl)
  rw [fo_238] at hk
  by_cases h0 : a_used S c l = 0
  · rw [if_pos h0] at hk
    unfold a_forget
    rw [if_pos h0]
    exact fr_0 (P := fun k => S 244 (8 * c + k) = l) _ _ h0 k (by omega) (by omega)
  · rw [if_neg h0] at hk
    have hp := fr_p (P := fun k => S 244 (8 * c + k) = l) _ _ h0
    rw [show fr (fun k => S 244 (8 * c + k) = l) (S 238 c) 0 = a_used S c l from rfl] at hp
    have hp1 := hp.1
    unfold a_forget
    rw [if_neg h0]
    unfold a_shift
    rw [if_pos rfl]
    by_cases c1 : 8 * c + (a_used S c l - 1) ≤ 8 * c + k ∧ 8 * c + k < 8 * c + (S 238 c - 1)
    · have := h c hc (a_used S c l - 1) (k + 1) (by omega) (by omega)
      rw [show 8 * c + (k + 1) = 8 * c + k + 1 by omega] at this
      rw [if_pos c1, sw_r (by omega)]
      omega
    · have c2 : ¬ 8 * c + k = 8 * c + (S 238 c - 1) := by omega
      have := h c hc k (a_used S c l - 1) (by omega) (by omega)
      rw [if_neg c1, if_neg c2, sw_r (by omega)]
      omega
theorem UD_use {S : a_S} {c l : Nat} (hr : RG S) (hc : c < 6) (h : UD S) (h7 : a_forget S c l 238 c ≤ 7) : UD (a_use S c l) := by
  have hf := UD_forget (l := l) hr hc h
  have hn := fo_not (l := l) hr hc h
  have hrf := RG_forget (c := c) (l := l) hr
  intro d hd k k' h1 h2
  have h8 := g_8 hrf 238 d (Or.inl rfl)
  unfold a_use at h2 ⊢
  simp (disch := omega) only [sw_r]
  by_cases hcd : d = c
  · subst hcd
    rw [sw_at] at h2
    rw [sw_i (by omega)]
    by_cases hk : k' = a_forget S d l 238 d
    · rw [hk, sw_at]
      exact hn k (by omega)
    · rw [sw_i (by omega)]
      exact hf d hd k k' h1 (by omega)
  · rw [sw_i hcd, sw_r (by omega)] at h2
    simp (disch := omega) only [sw_i]
    exact hf d hd k k' h1 h2
theorem UD_does {S : a_S} {c l w v : Nat} (hr : RG S) (hc : c < 6) (hl : l < 8) (hv : v < 10000) (h : UD S) : UD (a_does S c l w v) := by
  unfold a_does
  have g := RG_does2 (c := c) (l := l) (w := w) hr hv
  have u : UD (a_does2 S c l w v) := UD_c h (fun i => ad2_o (by omega)) (fun i => ad2_o (by omega))
  exact UD_use g hc u (UD_f7 g u hc hl)
theorem ag_c {S : a_S} {nd t l mn ow da : Nat} : a_gives S nd t l mn ow da 14 (8 * nd + l) = S 14 (8 * nd + l) - mn := by
  have e : a_gives2 S nd t l mn ow da 14 (8 * nd + l) = S 14 (8 * nd + l) - mn := by
    unfold a_gives2
    rw [sw_r (by omega), sw_r (by omega), ag1_c]
  unfold a_gives
  split
  · split
    · exact e
    · rw [fo_o (by omega), e]
  · exact ag1_c
theorem ag_le {S : a_S} {nd t l mn ow da i : Nat} : a_gives S nd t l mn ow da 14 i ≤ S 14 i := by
  by_cases h : i = 8 * nd + l
  · rw [h, ag_c]; omega
  · rw [ag_p (by omega) h]; exact Nat.le_refl _
theorem ev_le {S : a_S} {c l i : Nat} : a_evicts S c l 14 i ≤ S 14 i := by
  unfold a_evicts a_givesAll
  rw [sw_r (by omega)]
  exact Nat.le_trans ag_le (by rw [an_o (by omega)]; exact Nat.le_refl _)
theorem e_bit {f : Nat} (h : f < 31) : nI 1 <<< (nI f &&& 31) = nI (2 ^ f) := by
  have e2 : 2 ^ f < 2 ^ 32 := Nat.pow_lt_pow_right (by omega) (by omega)
  have e := e_shl (n := 1) (k := f) (by omega) (by rw [Nat.one_mul]; exact e2)
  rw [Nat.one_mul] at e
  exact e
theorem or_64 {a f : Nat} (ha : a < 64) (hf : f < 6) : a ||| 2 ^ f < 64 := Nat.or_lt_two_pow (n := 6) ha (Nat.pow_lt_pow_right (by omega) hf)
/-! ===== asks to read, to write ===== -/
def a_ans1 (S : a_S) (nd f l w : Nat) : a_S := if w = 1 ∧ nd ≠ 6 then sw S 538 (8 * nd + l) (f + 1) else S
def a_ans2 (S : a_S) (nd f l w : Nat) : a_S := if nd = 6 then a_ans1 S nd f l w else sw (a_ans1 S nd f l w) 6766 (8 * nd + l) (S 6766 (8 * nd + l) ||| 2 ^ f)
def a_ans3 (S : a_S) (nd f l w : Nat) : a_S :=
  if a_turn S nd l ≠ 0 ∨ S 14 (8 * nd + l) = 0 then S
  else if w = 1 ∨ (S 70 (8 * nd + l) = 1 ∧ S 14 (8 * nd + l) = 1) then a_givesAll S nd f l
  else if S 70 (8 * nd + l) = 1 then a_gives S nd f l 1 0 1 else S
def a_answers (S : a_S) (nd f l w : Nat) : a_S := a_ans3 (a_ans2 S nd f l w) nd f l w
theorem an1_o {S : a_S} {nd f l w r i : Nat} (h : r ≠ 538) : a_ans1 S nd f l w r i = S r i := by
  unfold a_ans1
  split
  · rw [sw_r h]
  · rfl
theorem an2_o {S : a_S} {nd f l w r i : Nat} (h : r ≠ 538 ∧ r ≠ 6766) : a_ans2 S nd f l w r i = S r i := by
  unfold a_ans2
  split
  · rw [an1_o h.1]
  · rw [sw_r h.2, an1_o h.1]
theorem RG_ans2 {S : a_S} {nd f l w : Nat} (h : RG S) (hf : f < 6) : RG (a_ans2 S nd f l w) := by
  have e : RG (a_ans1 S nd f l w) := by
    unfold a_ans1
    split
    · exact RG_sw h (by unfold rg; omega)
    · exact h
  have e2 := or_64 (g_gr h (8 * nd + l)) hf
  unfold a_ans2
  split
  · exact e
  · exact RG_sw e (by unfold rg; omega)
theorem r_ans3 {N : j_M} {S : a_S} {nd f l w : Nat} (h : RG S) (hq : S 1 7 < 240) (hd : nd < 7) (hf : f < 6) (hl : l < 8) (hw : w < 2) (m0 : N 204 0 = nI f) : xX12_answers_69 (nI nd) (nI w) (nI l) (nI (8 * nd + l)) (RS N S) = some (RS N (a_ans3 S nd f l w)) := by
  have h1 := g_turn (S := S) (nd := nd) (l := l)
  have hn := g_n h
  have hc := g_14 h (8 * nd + l)
  have ho := g_b h 70 (8 * nd + l) (Or.inl rfl)
  unfold xX12_answers_69 a_ans3
  rw [q_turn h hd hl]
  have e : ∀ z, z = S 70 (8 * nd + l) → S 14 (8 * nd + l) ≠ 0 → xX12_answers_112 (nI nd) (nI w) (nI l) (nI (8 * nd + l)) (nI z) (RS N S) = some (RS N (if w = 1 ∨ (S 70 (8 * nd + l) = 1 ∧ S 14 (8 * nd + l) = 1) then a_givesAll S nd f l
  else if S 70 (8 * nd + l) = 1 then a_gives S nd f l 1 0 1 else S)) := by
    intro z hz h0
    subst hz
    unfold xX12_answers_112 xX12_answers_137 xX12_answers_152
    simp (disch := omega) only [e_gd, e_ix, e_oli, e_oml, e_obi, e_obv, e_add, e_mul, e_sub, e_eq, e_lt, e_le, e_eq0, e_0eq, e_lt0, e_0lt, e_le0, e_0le, e_m1, e_m1', e_m1lt, Nat.add_assoc, Nat.not_lt_zero, Nat.le_zero_eq, sr_1, sr_14, sr_70, sr_126, sr_182, sr_238, sr_244, sr_292, sr_298, sr_304, sr_310, sr_316, sr_358, sr_400, sr_442, sr_484, sr_526, sr_532, sr_538, so_586, sr_586, sr_2746, sr_2752, sr_3112, sr_3118, sr_3124, sr_3130, sr_6730, sr_6736, sr_6766, sr_6814, sr_6961, sr_6962, sr_7362, sr_7363, sr_7364, su_6961, su_7362, su_7363, rs_o, m0, q_givesAll h hq hd (show f < 7 by omega) hl, q_gives h hq hd (show f < 7 by omega) hl (show 0 < 2 by omega) (show 1 < 2 by omega) (show 1 ≤ S 14 (8 * nd + l) by omega)]
    (repeat' split) <;> first | rfl | (exfalso; omega)
  simp (disch := omega) only [e_gd, e_ix, e_oli, e_oml, e_obi, e_obv, e_add, e_mul, e_sub, e_eq, e_lt, e_le, e_eq0, e_0eq, e_lt0, e_0lt, e_le0, e_0le, e_m1, e_m1', e_m1lt, Nat.add_assoc, Nat.not_lt_zero, Nat.le_zero_eq, oI_m1, sr_1, sr_14, sr_70, sr_126, sr_182, sr_238, sr_244, sr_292, sr_298, sr_304, sr_310, sr_316, sr_358, sr_400, sr_442, sr_484, sr_526, sr_532, sr_538, so_586, sr_586, sr_2746, sr_2752, sr_3112, sr_3118, sr_3124, sr_3130, sr_6730, sr_6736, sr_6766, sr_6814, sr_6961, sr_6962, sr_7362, sr_7363, sr_7364, su_6961, su_7362, su_7363]
  by_cases h2 : a_turn S nd l = 0
  · rw [if_pos h2]
    by_cases h3 : S 14 (8 * nd + l) = 0
    · rw [if_pos h3, if_pos (by omega)]
    · have h5 : ¬ (a_turn S nd l ≠ 0 ∨ S 14 (8 * nd + l) = 0) := by omega
      rw [if_neg h3, if_neg h5]
      by_cases h4 : S 70 (8 * nd + l) = 1
      · rw [if_pos h4, e 1 (by omega) h3]
      · rw [if_neg h4, e 0 (by omega) h3]
  · rw [if_neg h2, if_pos (by omega)]
theorem r_answers {N : j_M} {S : a_S} {nd f l w : Nat} (h : RG S) (hq : S 1 7 < 240) (hd : nd < 7) (hf : f < 6) (hl : l < 8) (hw : w < 2) (m0 : N 204 0 = nI f) (m3 : N 204 3 = nI l) : xX12_answers (nI nd) (nI w) (RS N S) = some (RS N (a_answers S nd f l w)) := by
  have e3 := r_ans3 (N := N) (S := a_ans2 S nd f l w) (nd := nd) (f := f) (l := l) (w := w) (RG_ans2 h hf) (by rw [an2_o (by omega)]; exact hq) hd hf hl hw m0
  have e1 : xX12_answers_41 (nI nd) (nI w) (nI l) (nI (8 * nd + l)) (RS N (a_ans1 S nd f l w)) = some (RS N (a_answers S nd f l w)) := by
    unfold a_answers
    unfold xX12_answers_41
    simp (disch := omega) only [e_gd, e_ix, e_oli, e_oml, e_obi, e_obv, e_add, e_mul, e_sub, e_eq, e_lt, e_le, e_eq0, e_0eq, e_lt0, e_0lt, e_le0, e_0le, e_m1, e_m1', e_m1lt, Nat.add_assoc, Nat.not_lt_zero, Nat.le_zero_eq, rs_o, m0]
    by_cases h6 : nd = 6
    · rw [if_pos h6, ← e3]
      unfold a_ans2
      rw [if_pos h6]
    · rw [if_neg h6, ← e3]
      simp (disch := omega) only [e_gd, e_ix, e_oli, e_oml, e_obi, e_obv, e_add, e_mul, e_sub, e_eq, e_lt, e_le, e_eq0, e_0eq, e_lt0, e_0lt, e_le0, e_0le, e_m1, e_m1', e_m1lt, Nat.add_assoc, Nat.not_lt_zero, Nat.le_zero_eq, sr_1, sr_14, sr_70, sr_126, sr_182, sr_238, sr_244, sr_292, sr_298, sr_304, sr_310, sr_316, sr_358, sr_400, sr_442, sr_484, sr_526, sr_532, sr_538, so_586, sr_586, sr_2746, sr_2752, sr_3112, sr_3118, sr_3124, sr_3130, sr_6730, sr_6736, sr_6766, sr_6814, sr_6961, sr_6962, sr_7362, sr_7363, sr_7364, su_6961, su_7362, su_7363, an1_o, e_bit, e_or, st_1, st_14, st_70, st_126, st_182, st_238, st_244, sm_292, so_292, st_292, st_298, st_304, st_310, st_316, st_358, st_400, st_442, st_484, st_526, st_532, sm_538, so_538, st_538, sm_586, sn_586, sp_586, st_586, st_2746, st_2752, st_3112, st_3118, st_3124, st_3130, st_6730, st_6736, st_6766, st_6814, st_6961, st_6962, st_7362, st_7363, st_7364, sv_6961, sv_7362, sv_7363]
      unfold a_ans2
      rw [if_neg h6]
  unfold xX12_answers
  simp (disch := omega) only [e_gd, e_ix, e_oli, e_oml, e_obi, e_obv, e_add, e_mul, e_sub, e_eq, e_lt, e_le, e_eq0, e_0eq, e_lt0, e_0lt, e_le0, e_0le, e_m1, e_m1', e_m1lt, Nat.add_assoc, Nat.not_lt_zero, Nat.le_zero_eq, rs_o, m0, m3, m_place]
  unfold a_ans1 at e1
  by_cases hw0 : w = 0
  · rw [if_neg (by omega)] at e1
    rw [if_pos hw0, e1]
  · rw [if_neg hw0]
    by_cases h6 : nd = 6
    · rw [if_neg (by omega)] at e1
      rw [if_pos h6, e1]
    · rw [if_pos (by omega)] at e1
      rw [if_neg h6]
      simp (disch := omega) only [e_gd, e_ix, e_oli, e_oml, e_obi, e_obv, e_add, e_mul, e_sub, e_eq, e_lt, e_le, e_eq0, e_0eq, e_lt0, e_0lt, e_le0, e_0le, e_m1, e_m1', e_m1lt, Nat.add_assoc, Nat.not_lt_zero, Nat.le_zero_eq, st_1, st_14, st_70, st_126, st_182, st_238, st_244, sm_292, so_292, st_292, st_298, st_304, st_310, st_316, st_358, st_400, st_442, st_484, st_526, st_532, sm_538, so_538, st_538, sm_586, sn_586, sp_586, st_586, st_2746, st_2752, st_3112, st_3118, st_3124, st_3130, st_6730, st_6736, st_6766, st_6814, st_6961, st_6962, st_7362, st_7363, st_7364, sv_6961, sv_7362, sv_7363]
      exact e1
