/-! ===== asksForGood, ends ===== -/
theorem e_obvs {F : Option j_M} : obv F (fun M => some M) = F := by cases F <;> rfl
theorem e_obis {F : Option (Int32 × j_M)} : obi F (fun v M => some (v, M)) = F := by cases F <;> rfl
theorem sw_same {S : a_S} {r i v : Nat} (h : v = S r i) : sw S r i v = S := by
  funext x j
  unfold sw
  split
  · rename_i h1
    rw [h1.1, h1.2, h]
  · rfl
def a_afg1 (S : a_S) (c l w : Nat) : a_S := sw (sw (sw (sw (sw S 316 (6 * c + c) (S 316 (6 * c + c) + 1)) 358 (6 * c + c) 1) 400 (6 * c + c) l) 442 (6 * c + c) w) 484 (6 * c + c) 0
def a_afg2 (S : a_S) (c l w : Nat) : a_S := a_tells c 4 l w 7 0 (a_notes (a_afg1 S c l w) 3 c l)
def a_afg3 (S : a_S) (c l w : Nat) : a_S := sw (sw (sw (a_afg2 S c l w) 310 c 1) 1 11 (S 1 11 + 1)) 6736 (5 * c + 4) (S 6736 (5 * c + 4) + 1)
def a_afg (S : a_S) (c l : Nat) : a_S := a_settles (a_afg3 S c l (if S 298 c = 1 then 1 else 2)) c l
theorem af1_o {S : a_S} {c l w r i : Nat} (h : r ≠ 316 ∧ r ≠ 358 ∧ r ≠ 400 ∧ r ≠ 442 ∧ r ≠ 484) : a_afg1 S c l w r i = S r i := by
  unfold a_afg1
  rw [sw_r (by omega), sw_r (by omega), sw_r (by omega), sw_r (by omega), sw_r (by omega)]
theorem af2_o {S : a_S} {c l w r i : Nat} (h : r ≠ 316 ∧ r ≠ 358 ∧ r ≠ 400 ∧ r ≠ 442 ∧ r ≠ 484 ∧ r ≠ 6961 ∧ r ≠ 6962 ∧ r ≠ 586 ∧ r ≠ 1 ∧ r ≠ 6814) : a_afg2 S c l w r i = S r i := by
  unfold a_afg2
  rw [at_o (by omega), an_o (by omega), af1_o (by omega)]
theorem af2_1 {S : a_S} {c l w i : Nat} (h : i ≠ 7) : a_afg2 S c l w 1 i = S 1 i := by
  unfold a_afg2
  rw [at_1 h, an_o (by omega), af1_o (by omega)]
theorem RG_afg1 {S : a_S} {c l w : Nat} (h : RG S) (hs : S 316 (6 * c + c) < 10100) (hl : l < 8) (hw : w < 4) : RG (a_afg1 S c l w) := by
  unfold a_afg1
  exact RG_sw (RG_sw (RG_sw (RG_sw (RG_sw h (by unfold rg; omega)) (by unfold rg; omega)) (by unfold rg; omega)) (by unfold rg; omega)) (by unfold rg; omega)
theorem RG_afg2 {S : a_S} {c l w : Nat} (h : RG S) (hq : S 1 7 ≤ 230) (hc : c < 6) (hs : S 316 (6 * c + c) < 10100) (hl : l < 8) (hw : w < 4) : RG (a_afg2 S c l w) ∧ a_afg2 S c l w 1 7 ≤ S 1 7 + 7 := by
  have g2 := RG_notes (w := 3) (c := c) (l := l) (RG_afg1 h hs hl hw)
  have n7 : a_notes (a_afg1 S c l w) 3 c l 1 7 = S 1 7 := by rw [an_o (by omega), af1_o (by omega)]
  have g3 := RG_tells hc (show 4 < 6 by omega) hl hw 7 0 _ g2 (by omega) (by omega)
  rw [n7] at g3
  exact g3
theorem RG_afg3 {S : a_S} {c l w : Nat} (h : RG S) (hq : S 1 7 ≤ 230) (hc : c < 6) (hs : S 316 (6 * c + c) < 10100) (hl : l < 8) (hw : w < 4) : RG (a_afg3 S c l w) ∧ a_afg3 S c l w 1 7 ≤ S 1 7 + 7 := by
  have g := RG_afg2 h hq hc hs hl hw
  unfold a_afg3
  refine ⟨RG_sw (RG_sw (RG_sw g.1 (by unfold rg; omega)) (by unfold rg; omega)) (by unfold rg; omega), ?_⟩
  rw [sw_r (by omega), sw_i (by omega), sw_r (by omega)]
  exact g.2
theorem r_afg {N : j_M} {S : a_S} {c l : Nat} (h : RG S) (h1 : 1 ≤ S 1 0) (hq : S 1 7 ≤ 230) (hc : c < 6) (hl : l < 8) (hm : S 292 c = l + 1) (ht : S 6961 0 < 2147483000) (hs : S 316 (6 * c + c) < 10100) : xX12_asksForGood (nI c) (RS N S) = some (RS N (a_afg S c l)) := by
  have e82 : ∀ z, z = (if S 298 c = 1 then 1 else 2) → xX12_asksForGood_82 (nI c) (nI (6 * c + c)) (nI l) (nI (442 + (6 * c + c))) (nI z) (RS N (sw (sw (sw S 316 (6 * c + c) (S 316 (6 * c + c) + 1)) 358 (6 * c + c) 1) 400 (6 * c + c) l)) = some (RS N (a_afg S c l)) := by
    intro z hz
    have hz4 : z < 4 := by split at hz <;> omega
    have g1 := RG_afg1 (c := c) (l := l) (w := z) h hs hl hz4
    have g2 := RG_notes (w := 3) (c := c) (l := l) g1
    have n0 : a_notes (a_afg1 S c l z) 3 c l 1 0 = S 1 0 := by rw [an_o (by omega), af1_o (by omega)]
    have n7 : a_notes (a_afg1 S c l z) 3 c l 1 7 = S 1 7 := by rw [an_o (by omega), af1_o (by omega)]
    have nw : a_notes (a_afg1 S c l z) 3 c l 442 (6 * c + c) = z := by
      rw [an_o (by omega)]
      unfold a_afg1
      rw [sw_r (by omega), sw_at]
    have n6 : a_afg1 S c l z 6961 0 = S 6961 0 := af1_o (by omega)
    have en := q_notes (N := N) (S := a_afg1 S c l z) (w := 3) (c := c) (l := l) (by omega)
    have et := r_tellsAll (N := N) (k := 4) (l := l) (wh := z) g2 (by omega) (by omega) hc (by omega) hl hz4
    have g3 := RG_afg3 h hq hc hs hl hz4
    have es := q_settles (N := N) (S := a_afg3 S c l z) (nd := c) (l := l) g3.1 (by omega) (by omega) hl
    have f1 : a_afg2 S c l z 1 11 = S 1 11 := af2_1 (by omega)
    have f2 : a_afg2 S c l z 6736 (5 * c + 4) = S 6736 (5 * c + 4) := af2_o (by omega)
    unfold a_afg2 at f1 f2
    unfold a_afg3 a_afg2 at es
    unfold a_afg a_afg3 a_afg2
    rw [← hz]
    unfold a_afg1 at en et es nw f1 f2 ⊢
    unfold xX12_asksForGood_82
    simp (disch := omega) only [e_gd, e_ix, e_oli, e_oml, e_obi, e_obv, e_add, e_mul, e_sub, e_eq, e_lt, e_le, e_eq0, e_0eq, e_lt0, e_0lt, e_le0, e_0le, e_m1, e_m1', e_m1lt, Nat.add_assoc, Nat.not_lt_zero, Nat.le_zero_eq, st_1, st_14, st_70, st_126, st_182, st_238, st_244, sm_292, so_292, st_292, st_298, st_304, st_310, st_316, st_358, st_400, st_442, st_484, st_526, st_532, sm_538, so_538, st_538, sm_586, sn_586, sp_586, st_586, st_2746, st_2752, st_3112, st_3118, st_3124, st_3130, st_6730, st_6736, st_6766, st_6814, st_6961, st_6962, st_7362, st_7363, st_7364, sv_6961, sv_7362, sv_7363, en, sr_1, sr_14, sr_70, sr_126, sr_182, sr_238, sr_244, sr_292, sr_298, sr_304, sr_310, sr_316, sr_358, sr_400, sr_442, sr_484, sr_526, sr_532, sr_538, so_586, sr_586, sr_2746, sr_2752, sr_3112, sr_3118, sr_3124, sr_3130, sr_6730, sr_6736, sr_6766, sr_6814, sr_6961, sr_6962, sr_7362, sr_7363, sr_7364, su_6961, su_7362, su_7363, nw, et, sw_r, f1, f2, es]
  have hw := g_4 h 298 c (Or.inl rfl)
  unfold xX12_asksForGood
  simp (disch := omega) only [e_gd, e_ix, e_oli, e_oml, e_obi, e_obv, e_add, e_mul, e_sub, e_eq, e_lt, e_le, e_eq0, e_0eq, e_lt0, e_0lt, e_le0, e_0le, e_m1, e_m1', e_m1lt, Nat.add_assoc, Nat.not_lt_zero, Nat.le_zero_eq, sr_1, sr_14, sr_70, sr_126, sr_182, sr_238, sr_244, sr_292, sr_298, sr_304, sr_310, sr_316, sr_358, sr_400, sr_442, sr_484, sr_526, sr_532, sr_538, so_586, sr_586, sr_2746, sr_2752, sr_3112, sr_3118, sr_3124, sr_3130, sr_6730, sr_6736, sr_6766, sr_6814, sr_6961, sr_6962, sr_7362, sr_7363, sr_7364, su_6961, su_7362, su_7363, hm, oI_s, st_1, st_14, st_70, st_126, st_182, st_238, st_244, sm_292, so_292, st_292, st_298, st_304, st_310, st_316, st_358, st_400, st_442, st_484, st_526, st_532, sm_538, so_538, st_538, sm_586, sn_586, sp_586, st_586, st_2746, st_2752, st_3112, st_3118, st_3124, st_3130, st_6730, st_6736, st_6766, st_6814, st_6961, st_6962, st_7362, st_7363, st_7364, sv_6961, sv_7362, sv_7363, sw_r]
  by_cases h3 : S 298 c = 1
  · rw [if_pos h3, e82 1 (by rw [if_pos h3])]
  · rw [if_neg h3, e82 2 (by rw [if_neg h3])]
theorem RG_afg {S : a_S} {c l : Nat} (h : RG S) (hq : S 1 7 ≤ 230) (hc : c < 6) (hs : S 316 (6 * c + c) < 10100) (hl : l < 8) : RG (a_afg S c l) := by
  have g3 := RG_afg3 (w := if S 298 c = 1 then 1 else 2) h hq hc hs hl (by split <;> omega)
  exact RG_settles g3.1 (by omega) (by omega) hl
/-- the marks behind an end -/
def a_mk (S : a_S) (c l k : Nat) : a_S := fun r i => if r = 484 ∧ 6 * c + k ≤ i ∧ i < 6 * c + S 1 0 ∧ i ≠ 6 * c + c ∧ S 358 i = 1 ∧ S 400 i = l then 1 else S r i
theorem mk_o {S : a_S} {c l k r i : Nat} (h : r ≠ 484) : a_mk S c l k r i = S r i := by
  unfold a_mk
  rw [if_neg (fun e => h e.1)]
theorem RG_mk {S : a_S} {c l k : Nat} (h : RG S) : RG (a_mk S c l k) := by
  intro x j
  unfold a_mk
  split
  · rename_i h1
    rw [h1.1]
    unfold rg
    omega
  · exact h x j
theorem r_mk {N : j_M} {c l : Nat} (hc : c < 6) (hl : l < 8) : ∀ (m n k : Nat) (S : a_S), RG S → k + m = S 1 0 → xX12_ends_234 (n + m + 1) (nI c) (nI l) (nI k) (RS N S) = xX12_tellsAll (nI c) (nI 5) (nI l) (nI 0) (RS N (a_mk S c l k))
  | 0, n, k, S, h, hk => by
    have e : a_mk S c l k = S := by
      funext r i
      unfold a_mk
      rw [if_neg (by omega)]
    have hn := g_n h
    rw [show n + 0 + 1 = n + 1 from rfl, xX12_ends_234.eq_2, e]
    simp (disch := omega) only [e_gd, e_ix, e_oli, e_oml, e_obi, e_obv, e_add, e_mul, e_sub, e_eq, e_lt, e_le, e_eq0, e_0eq, e_lt0, e_0lt, e_le0, e_0le, e_m1, e_m1', e_m1lt, Nat.add_assoc, Nat.not_lt_zero, Nat.le_zero_eq, sr_1, sr_14, sr_70, sr_126, sr_182, sr_238, sr_244, sr_292, sr_298, sr_304, sr_310, sr_316, sr_358, sr_400, sr_442, sr_484, sr_526, sr_532, sr_538, so_586, sr_586, sr_2746, sr_2752, sr_3112, sr_3118, sr_3124, sr_3130, sr_6730, sr_6736, sr_6766, sr_6814, sr_6961, sr_6962, sr_7362, sr_7363, sr_7364, su_6961, su_7362, su_7363, if_pos, e_obvs]
  | m + 1, n, k, S, h, hk => by
    have hn := g_n h
    have b1 := g_b h 358 (6 * c + k) (by omega)
    have b2 := g_l h 400 (6 * c + k) (by omega)
    have e0 := r_mk (N := N) hc hl m n (k + 1) S h (by omega)
    have e1 := r_mk (N := N) hc hl m n (k + 1) (sw S 484 (6 * c + k) 1) (RG_sw h (by unfold rg; omega)) (by rw [sw_r (by omega)]; omega)
    rw [show n + (m + 1) + 1 = (n + m + 1) + 1 by omega, xX12_ends_234.eq_2]
    simp (disch := omega) only [e_gd, e_ix, e_oli, e_oml, e_obi, e_obv, e_add, e_mul, e_sub, e_eq, e_lt, e_le, e_eq0, e_0eq, e_lt0, e_0lt, e_le0, e_0le, e_m1, e_m1', e_m1lt, Nat.add_assoc, Nat.not_lt_zero, Nat.le_zero_eq, sr_1, sr_14, sr_70, sr_126, sr_182, sr_238, sr_244, sr_292, sr_298, sr_304, sr_310, sr_316, sr_358, sr_400, sr_442, sr_484, sr_526, sr_532, sr_538, so_586, sr_586, sr_2746, sr_2752, sr_3112, sr_3118, sr_3124, sr_3130, sr_6730, sr_6736, sr_6766, sr_6814, sr_6961, sr_6962, sr_7362, sr_7363, sr_7364, su_6961, su_7362, su_7363, st_1, st_14, st_70, st_126, st_182, st_238, st_244, sm_292, so_292, st_292, st_298, st_304, st_310, st_316, st_358, st_400, st_442, st_484, st_526, st_532, sm_538, so_538, st_538, sm_586, sn_586, sp_586, st_586, st_2746, st_2752, st_3112, st_3118, st_3124, st_3130, st_6730, st_6736, st_6766, st_6814, st_6961, st_6962, st_7362, st_7363, st_7364, sv_6961, sv_7362, sv_7363]
    rw [if_neg (by omega), show n + (m + 1) = n + m + 1 from rfl, e0, e1]
    by_cases h2 : k ≠ c ∧ S 358 (6 * c + k) = 1 ∧ S 400 (6 * c + k) = l
    · have e : a_mk (sw S 484 (6 * c + k) 1) c l (k + 1) = a_mk S c l k := by
        funext r i
        unfold a_mk
        simp (disch := omega) only [sw_r]
        unfold sw
        by_cases hr : r = 484
        · by_cases hi : i = 6 * c + k
          · subst hi
            rw [if_neg (by omega), if_pos ⟨hr, rfl⟩, if_pos (by refine ⟨hr, ?_, ?_, ?_, h2.2.1, h2.2.2⟩ <;> omega)]
          · have q : (6 * c + (k + 1) ≤ i) = (6 * c + k ≤ i) := by apply propext; omega
            simp only [q, hi, and_false, if_false]
        · rw [if_neg (fun e => hr e.1), if_neg (fun e => hr e.1), if_neg (fun e => hr e.1)]
      rw [e, if_neg h2.1, if_pos h2.2.1, if_pos h2.2.2]
    · have e : a_mk S c l (k + 1) = a_mk S c l k := by
        funext r i
        unfold a_mk
        by_cases hi : i = 6 * c + k
        · subst hi
          rw [if_neg (by omega), if_neg]
          intro h9
          exact h2 ⟨by omega, h9.2.2.2.2.1, h9.2.2.2.2.2⟩
        · have q : (6 * c + (k + 1) ≤ i) = (6 * c + k ≤ i) := by apply propext; omega
          simp only [q]
      rw [e]
      (repeat' split) <;> first | rfl | (exfalso; exact h2 ⟨by assumption, by assumption, by assumption⟩)
