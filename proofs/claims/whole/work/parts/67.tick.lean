/-! ===== what never changes by a message; how many notes ===== -/
def stt (r j : Nat) : Prop := (r = 1 ∧ j ≤ 6) ∨ (3112 ≤ r ∧ r < 6730) ∨ 7362 ≤ r
theorem st_send {S : a_S} {f t k l mn ow wi nt wh r j : Nat} (h : stt r j) : a_send S f t k l mn ow wi nt wh r j = S r j := by
  unfold stt at h
  by_cases h1 : r = 1
  · subst h1; exact as_1 (by omega)
  · exact as_o (by omega)
theorem st_notes {S : a_S} {w c l r j : Nat} (h : stt r j) : a_notes S w c l r j = S r j := an_o (by unfold stt at h; omega)
theorem st_gives {S : a_S} {nd t l mn ow da r j : Nat} (h : stt r j) : a_gives S nd t l mn ow da r j = S r j := by
  unfold stt at h
  by_cases h1 : r = 1
  · subst h1; exact ag_1 (by omega)
  · exact ag_o (by omega)
theorem st_settles {S : a_S} {nd l r j : Nat} (h : stt r j) : a_settles S nd l r j = S r j := by
  unfold a_settles a_givesAll
  (repeat' split) <;> first | rfl | exact st_gives h
theorem st_tells {c k l wh r j : Nat} (h : stt r j) (m to : Nat) (S : a_S) : a_tells c k l wh m to S r j = S r j := by
  unfold stt at h
  by_cases h1 : r = 1
  · subst h1; exact at_1 (by omega) m to S
  · exact at_o (by omega) m to S
theorem st_ends {S : a_S} {c l r j : Nat} (h : stt r j) : a_ends S c l r j = S r j := by
  have h' := h
  unfold stt at h'
  have e3 : a_ends3 S c l r j = S r j := by
    by_cases h1 : r = 1
    · subst h1; exact ae3_1 (by omega)
    · exact ae3_o (by omega)
  unfold a_ends
  split
  · rw [st_tells h]
    unfold a_ends4
    rw [mk_o (by omega), sw_r (by omega), e3]
  · exact e3
theorem st_evicts {S : a_S} {c l r j : Nat} (h : stt r j) : a_evicts S c l r j = S r j := by
  have h' := h
  unfold stt at h'
  unfold a_evicts a_givesAll
  rw [sw_ne (by omega), st_gives h, st_notes h]
theorem st_take {S : a_S} {nd l mn ow wi r j : Nat} (h : stt r j) : a_take S nd l mn ow wi r j = S r j := ta_o (by unfold stt at h; omega)
theorem st_c272 {S : a_S} {nd l r j : Nat} (h : stt r j) : a_c272 S nd l r j = S r j := by
  unfold a_c272
  split
  · rw [st_settles h, st_ends h]
  · rw [st_settles h]
theorem st_c178 {S : a_S} {nd l mn ow wi r j : Nat} (h : stt r j) : a_c178 S nd l mn ow wi r j = S r j := by
  unfold a_c178
  rw [st_c272 h, st_take h]
  split
  · exact us_o (by unfold stt at h; omega)
  · rfl
theorem st_comes {S : a_S} {nd f l mn ow wi r j : Nat} (h : stt r j) : a_comes S nd f l mn ow wi r j = S r j := by
  have er : a_rem S nd f l r j = S r j := re_o (by unfold stt at h; omega)
  unfold a_comes
  split
  · rw [st_c272 h, st_take h]
  · unfold a_c82
    (repeat' split)
    · rw [st_c178 h, st_evicts h, er]
    · rw [st_send h, st_notes h, er]
    · rw [st_c178 h, er]
theorem st_answers {S : a_S} {nd f l w r j : Nat} (h : stt r j) : a_answers S nd f l w r j = S r j := by
  have er : a_ans2 S nd f l w r j = S r j := an2_o (by unfold stt at h; omega)
  unfold a_answers a_ans3 a_givesAll
  (repeat' split) <;> first | exact er | rw [st_gives h, er]
theorem st_del {S : a_S} {i r j : Nat} (h : stt r j) : a_del S i r j = S r j := by
  have h' := h
  unfold stt at h'
  have er : a_rm S i r j = S r j := by
    by_cases h1 : r = 1
    · subst h1; exact rm_1 (by omega)
    · exact rm_q (by omega)
  unfold a_del
  (repeat' split)
  · rw [st_answers h, er]
  · rw [st_answers h, er]
  · rw [st_comes h, er]
  · unfold a_asked
    split
    · exact er
    · rw [st_settles h, ak1_o (by omega), er]
  · unfold a_reca
    split
    · exact er
    · rw [st_settles h, rc1_o (by omega), er]
/-- notes -/
theorem t_settles {S : a_S} {nd l : Nat} : a_settles S nd l 6961 0 = S 6961 0 := by
  unfold a_settles a_givesAll
  (repeat' split) <;> first | rfl | exact ag_t
theorem t_ends {S : a_S} {c l : Nat} : a_ends S c l 6961 0 = S 6961 0 + 1 := by
  have e3 : a_ends3 S c l 6961 0 = S 6961 0 + 1 := by
    unfold a_ends3 a_ends2 a_ends1
    simp (disch := omega) only [sw_r, ad_o, an_t]
  unfold a_ends
  split
  · rw [at_o (by omega)]
    unfold a_ends4
    rw [mk_o (by omega), sw_r (by omega), e3]
  · exact e3
theorem t_c272 {S : a_S} {nd l : Nat} : a_c272 S nd l 6961 0 ≤ S 6961 0 + 1 := by
  unfold a_c272
  split
  · rw [t_settles, t_ends]; exact Nat.le_refl _
  · rw [t_settles]; omega
theorem t_c178 {S : a_S} {nd l mn ow wi : Nat} : a_c178 S nd l mn ow wi 6961 0 ≤ S 6961 0 + 1 := by
  unfold a_c178
  refine Nat.le_trans t_c272 ?_
  rw [ta_o (by omega)]
  split
  · rw [us_o (by omega)]; exact Nat.le_refl _
  · exact Nat.le_refl _
theorem t_comes {S : a_S} {nd f l mn ow wi : Nat} : a_comes S nd f l mn ow wi 6961 0 ≤ S 6961 0 + 2 := by
  have er : a_rem S nd f l 6961 0 = S 6961 0 := re_o (by omega)
  unfold a_comes
  split
  · refine Nat.le_trans t_c272 ?_
    rw [ta_o (by omega)]; omega
  · unfold a_c82
    (repeat' split)
    · refine Nat.le_trans t_c178 ?_
      rw [ev_t, er]; exact Nat.le_refl _
    · rw [as_o (by omega), an_t, er]; omega
    · refine Nat.le_trans t_c178 ?_
      rw [er]; omega
theorem t_del {S : a_S} {i : Nat} : a_del S i 6961 0 ≤ S 6961 0 + 2 := by
  have er : a_rm S i 6961 0 = S 6961 0 := rm_q (by omega)
  have ea : ∀ nd f l w, a_answers (a_rm S i) nd f l w 6961 0 = S 6961 0 := by
    intro nd f l w
    have e2 : a_ans2 (a_rm S i) nd f l w 6961 0 = S 6961 0 := by rw [an2_o (by omega), er]
    unfold a_answers a_ans3 a_givesAll
    (repeat' split) <;> first | exact e2 | rw [ag_t, e2]
  unfold a_del
  (repeat' split)
  · rw [ea]; omega
  · rw [ea]; omega
  · exact Nat.le_trans t_comes (by rw [er]; exact Nat.le_refl _)
  · unfold a_asked
    split
    · rw [er]; omega
    · rw [t_settles, ak1_o (by omega), er]; omega
  · unfold a_reca
    split
    · rw [er]; omega
    · rw [t_settles, rc1_o (by omega), er]; omega
/-! ===== ticks ===== -/
def a_msg4 (S : a_S) (c : Nat) : Nat := fr (fun i => S 586 (9 * i) = c ∧ 4 ≤ S 586 (9 * i + 2)) (S 1 7) 0
def a_mrk (S : a_S) (c l : Nat) : Nat := fr (fun o => S 484 (6 * c + o) = 1 ∧ S 358 (6 * c + o) = 1 ∧ S 400 (6 * c + o) = l) (S 1 0) 0
theorem r_mrk_l {N : j_M} {S : a_S} {c l : Nat} (h : RG S) (hc : c < 6) (hl : l < 8) (hm : S 292 c = l + 1) : ∀ (m n k : Nat), k + m = S 1 0 → xX12_mustWait_43 (n + m + 1) (nI c) (nI k) (RS N S) = some (if fr (fun o => S 484 (6 * c + o) = 1 ∧ S 358 (6 * c + o) = 1 ∧ S 400 (6 * c + o) = l) m k = 0 then nI 0 else nI 1, RS N S)
  | 0, n, k, hk => by
    have hn := g_n h
    rw [show n + 0 + 1 = n + 1 from rfl, xX12_mustWait_43.eq_2]
    simp (disch := omega) only [e_gd, e_ix, e_oli2, e_oml2, e_obi2, e_obv2, e_add, e_mul, e_sub, e_eq, e_lt, e_le, e_eq0, e_0eq, e_lt0, e_0lt, e_le0, e_0le, e_m1, e_m1', e_m1lt, Nat.add_assoc, Nat.not_lt_zero, Nat.le_zero_eq, sr_1, sr_14, sr_70, sr_126, sr_182, sr_238, sr_244, sr_292, sr_298, sr_304, sr_310, sr_316, sr_358, sr_400, sr_442, sr_484, sr_526, sr_532, sr_538, so_586, sr_586, sr_2746, sr_2752, sr_3112, sr_3118, sr_3124, sr_3130, sr_6730, sr_6736, sr_6766, sr_6814, sr_6961, sr_6962, sr_7362, sr_7363, sr_7364, su_6961, su_7362, su_7363, if_pos]
    rfl
  | m + 1, n, k, hk => by
    have hn := g_n h
    have g := g_ev h (6 * c + k)
    have ih := r_mrk_l (N := N) h hc hl hm m n (k + 1) (by omega)
    rw [show n + (m + 1) + 1 = (n + m + 1) + 1 by omega, xX12_mustWait_43.eq_2]
    simp (disch := omega) only [e_gd, e_ix, e_oli2, e_oml2, e_obi2, e_obv2, e_add, e_mul, e_sub, e_eq, e_lt, e_le, e_eq0, e_0eq, e_lt0, e_0lt, e_le0, e_0le, e_m1, e_m1', e_m1lt, Nat.add_assoc, Nat.not_lt_zero, Nat.le_zero_eq, sr_1, sr_14, sr_70, sr_126, sr_182, sr_238, sr_244, sr_292, sr_298, sr_304, sr_310, sr_316, sr_358, sr_400, sr_442, sr_484, sr_526, sr_532, sr_538, so_586, sr_586, sr_2746, sr_2752, sr_3112, sr_3118, sr_3124, sr_3130, sr_6730, sr_6736, sr_6766, sr_6814, sr_6961, sr_6962, sr_7362, sr_7363, sr_7364, su_6961, su_7362, su_7363, hm, oI_s]
    rw [if_neg (by omega), show n + (m + 1) = n + m + 1 from rfl, ih, fr_s]
    by_cases h1 : S 484 (6 * c + k) = 1 ∧ S 358 (6 * c + k) = 1 ∧ S 400 (6 * c + k) = l
    · rw [if_pos h1.1, if_pos h1.2.1, if_pos h1.2.2, if_pos h1, if_neg (by omega)]
    · rw [if_neg h1]
      by_cases a : S 484 (6 * c + k) = 1
      · rw [if_pos a]
        by_cases b : S 358 (6 * c + k) = 1
        · rw [if_pos b, if_neg (fun d => h1 ⟨a, b, d⟩)]
        · rw [if_neg b]
      · rw [if_neg a]
theorem r_msg4_l {N : j_M} {S : a_S} {c : Nat} (h : RG S) (hc : c < 6) : ∀ (m n k : Nat), k + m = S 1 7 → xX12_mustWait_2 (n + m + 1) (nI c) (nI k) (RS N S) = if fr (fun i => S 586 (9 * i) = c ∧ 4 ≤ S 586 (9 * i + 2)) m k = 0 then xX12_mustWait_43 fu (nI c) (nI 0) (RS N S) else some (nI 1, RS N S)
  | 0, n, k, hk => by
    have hq : S 1 7 ≤ 240 := (h 1 7).1 rfl |>.2.2.2.2.2.2 rfl
    rw [show n + 0 + 1 = n + 1 from rfl, xX12_mustWait_2.eq_2]
    simp (disch := omega) only [e_gd, e_ix, e_oli2, e_oml2, e_obi2, e_obv2, e_add, e_mul, e_sub, e_eq, e_lt, e_le, e_eq0, e_0eq, e_lt0, e_0lt, e_le0, e_0le, e_m1, e_m1', e_m1lt, Nat.add_assoc, Nat.not_lt_zero, Nat.le_zero_eq, sr_1, sr_14, sr_70, sr_126, sr_182, sr_238, sr_244, sr_292, sr_298, sr_304, sr_310, sr_316, sr_358, sr_400, sr_442, sr_484, sr_526, sr_532, sr_538, so_586, sr_586, sr_2746, sr_2752, sr_3112, sr_3118, sr_3124, sr_3130, sr_6730, sr_6736, sr_6766, sr_6814, sr_6961, sr_6962, sr_7362, sr_7363, sr_7364, su_6961, su_7362, su_7363, if_pos]
    rfl
  | m + 1, n, k, hk => by
    have hq : S 1 7 ≤ 240 := (h 1 7).1 rfl |>.2.2.2.2.2.2 rfl
    have g := g_f h k
    have ih := r_msg4_l (N := N) h hc m n (k + 1) (by omega)
    rw [show n + (m + 1) + 1 = (n + m + 1) + 1 by omega, xX12_mustWait_2.eq_2]
    simp (disch := omega) only [e_gd, e_ix, e_oli2, e_oml2, e_obi2, e_obv2, e_add, e_mul, e_sub, e_eq, e_lt, e_le, e_eq0, e_0eq, e_lt0, e_0lt, e_le0, e_0le, e_m1, e_m1', e_m1lt, Nat.add_assoc, Nat.not_lt_zero, Nat.le_zero_eq, sr_1, sr_14, sr_70, sr_126, sr_182, sr_238, sr_244, sr_292, sr_298, sr_304, sr_310, sr_316, sr_358, sr_400, sr_442, sr_484, sr_526, sr_532, sr_538, so_586, sr_586, sr_2746, sr_2752, sr_3112, sr_3118, sr_3124, sr_3130, sr_6730, sr_6736, sr_6766, sr_6814, sr_6961, sr_6962, sr_7362, sr_7363, sr_7364, su_6961, su_7362, su_7363, r_of, Nat.add_zero]
    rw [if_neg (by omega), show n + (m + 1) = n + m + 1 from rfl, ih, fr_s]
    by_cases h1 : S 586 (9 * k) = c ∧ 4 ≤ S 586 (9 * k + 2)
    · rw [if_pos h1.1, if_neg (by omega), if_pos h1, if_neg (by omega)]
    · rw [if_neg h1]
      by_cases a : S 586 (9 * k) = c
      · rw [if_pos a, if_pos (by omega)]
      · rw [if_neg a]
theorem r_must {N : j_M} {S : a_S} {c l : Nat} (h : RG S) (hc : c < 6) (hl : l < 8) (hm : S 292 c = l + 1) : xX12_mustWait (nI c) (RS N S) = some (if a_msg4 S c = 0 ∧ a_mrk S c l = 0 then nI 0 else nI 1, RS N S) := by
  have hq : S 1 7 ≤ 240 := (h 1 7).1 rfl |>.2.2.2.2.2.2 rfl
  have hn := g_n h
  have e1 := r_msg4_l (N := N) h hc (S 1 7) (1000000 - (S 1 7 + 1)) 0 (by omega)
  have e2 := r_mrk_l (N := N) h hc hl hm (S 1 0) (1000000 - (S 1 0 + 1)) 0 (by omega)
  rw [Nat.add_assoc, ← fu_s (S 1 7 + 1) (by omega)] at e1
  rw [Nat.add_assoc, ← fu_s (S 1 0 + 1) (by omega)] at e2
  unfold xX12_mustWait
  rw [e1, e2]
  unfold a_msg4 a_mrk
  (repeat' split) <;> first | rfl | (exfalso; omega)
def a_tk0 (S : a_S) (c : Nat) : a_S := sw (sw S 526 c (S 526 c + (if S 526 c < 3 then 1 else 0))) 532 c (S 1 5)
def a_tk1 (S : a_S) (c l : Nat) : a_S := a_asks (a_notes (a_tk0 S c) 6 c l) c l
def a_ticksOf (S : a_S) (c : Nat) : a_S :=
  if S 292 c = 0 ∨ S 310 c = 1 ∨ S 1 5 - S 532 c < S 1 4 then S
  else if S 526 c < 3 ∨ ¬ (a_msg4 S c = 0 ∧ a_mrk S c (S 292 c - 1) = 0) then a_tk1 S c (S 292 c - 1) else a_afg S c (S 292 c - 1)
theorem tk0_o {S : a_S} {c r i : Nat} (h : r ≠ 526 ∧ r ≠ 532) : a_tk0 S c r i = S r i := by
  unfold a_tk0
  rw [sw_r h.2, sw_r h.1]
theorem RG_tk0 {S : a_S} {c : Nat} (h : RG S) : RG (a_tk0 S c) := by
  have a := g_4 h 526 c (by omega)
  have b := g_tk h
  have e : S 526 c + (if S 526 c < 3 then 1 else 0) < 4 := by split <;> omega
  unfold a_tk0
  exact RG_sw (RG_sw h (by unfold rg; omega)) (by unfold rg; omega)
theorem r_ticksOf {N : j_M} {S : a_S} {c : Nat} (h : RG S) (h1 : 1 ≤ S 1 0) (hq : S 1 7 ≤ 230) (hc : c < 6) (ht : S 6961 0 < 2147482000) (hs : S 316 (6 * c + c) < 10100) (hl9 : S 532 c ≤ S 1 5) : xX12_ticksOf (nI c) (RS N S) = some (RS N (a_ticksOf S c)) := by
  have g := g_mv h c
  have g5 := g_4 h 526 c (by omega)
  have htk := g_tk h
  have hpa : S 1 4 ≤ 20 := (h 1 4).1 rfl |>.2.2.2.2.1 rfl
  unfold xX12_ticksOf a_ticksOf
  simp (disch := omega) only [e_gd, e_ix, e_oli2, e_oml2, e_obi2, e_obv2, e_add, e_mul, e_sub, e_eq, e_lt, e_le, e_eq0, e_0eq, e_lt0, e_0lt, e_le0, e_0le, e_m1, e_m1', e_m1lt, Nat.add_assoc, Nat.not_lt_zero, Nat.le_zero_eq, sr_1, sr_14, sr_70, sr_126, sr_182, sr_238, sr_244, sr_292, sr_298, sr_304, sr_310, sr_316, sr_358, sr_400, sr_442, sr_484, sr_526, sr_532, sr_538, so_586, sr_586, sr_2746, sr_2752, sr_3112, sr_3118, sr_3124, sr_3130, sr_6730, sr_6736, sr_6766, sr_6814, sr_6961, sr_6962, sr_7362, sr_7363, sr_7364, su_6961, su_7362, su_7363, oI_m1]
  by_cases h0 : S 292 c = 0
  · rw [if_pos h0, if_pos (Or.inl h0)]
  · obtain ⟨l, hl⟩ : ∃ l, S 292 c = l + 1 := ⟨S 292 c - 1, by omega⟩
    rw [if_neg h0]
    by_cases hg : S 310 c = 1
    · rw [if_pos hg, if_pos (Or.inr (Or.inl hg))]
    · rw [if_neg hg]
      by_cases hp : S 1 5 - S 532 c < S 1 4
      · rw [if_neg (by omega), if_pos (Or.inr (Or.inr hp))]
      · have hA : ¬ (S 292 c = 0 ∨ S 310 c = 1 ∨ S 1 5 - S 532 c < S 1 4) := by omega
        rw [if_pos (by omega), if_neg hA, hl, Nat.add_sub_cancel]
        have e87 : ∀ z, (z = 0 ∧ ¬ S 526 c < 3) ∨ (z = 1 ∧ S 526 c < 3) → xX12_ticksOf_87 (nI c) (nI z) (RS N S) = some (RS N (a_tk1 S c l)) := by
          intro z hz
          have nl : a_notes (a_tk0 S c) 6 c l 292 c = l + 1 := by rw [an_o (by omega), tk0_o (by omega)]; exact hl
          have en := q_notes (N := N) (S := a_tk0 S c) (w := 6) (c := c) (l := l) (by rw [tk0_o (by omega)]; omega)
          have ea := r_asks (N := N) (S := a_notes (a_tk0 S c) 6 c l) (c := c) (l := l) (RG_notes (RG_tk0 h)) hc (by omega) nl (by rw [an_o (by omega), tk0_o (by omega)]; omega)
          unfold xX12_ticksOf_87 xX12_ticksOf_107
          unfold a_tk1
          unfold a_tk0 at en ea ⊢
          rcases hz with ⟨hz, h3⟩ | ⟨hz, h3⟩
          · subst hz
            rw [if_neg h3] at en ea ⊢
            simp (disch := omega) only [e_gd, e_ix, e_oli2, e_oml2, e_obi2, e_obv2, e_add, e_mul, e_sub, e_eq, e_lt, e_le, e_eq0, e_0eq, e_lt0, e_0lt, e_le0, e_0le, e_m1, e_m1', e_m1lt, Nat.add_assoc, Nat.not_lt_zero, Nat.le_zero_eq, sr_1, sr_14, sr_70, sr_126, sr_182, sr_238, sr_244, sr_292, sr_298, sr_304, sr_310, sr_316, sr_358, sr_400, sr_442, sr_484, sr_526, sr_532, sr_538, so_586, sr_586, sr_2746, sr_2752, sr_3112, sr_3118, sr_3124, sr_3130, sr_6730, sr_6736, sr_6766, sr_6814, sr_6961, sr_6962, sr_7362, sr_7363, sr_7364, su_6961, su_7362, su_7363, st_1, st_14, st_70, st_126, st_182, st_238, st_244, sm_292, so_292, st_292, st_298, st_304, st_310, st_316, st_358, st_400, st_442, st_484, st_526, st_532, sm_538, so_538, st_538, sm_586, sn_586, sp_586, st_586, st_2746, st_2752, st_3112, st_3118, st_3124, st_3130, st_6730, st_6736, st_6766, st_6814, st_6961, st_6962, st_7362, st_7363, st_7364, sv_6961, sv_7362, sv_7363, sw_r, hl, oI_s, en, ea, if_true]
          · subst hz
            rw [if_pos h3] at en ea ⊢
            simp (disch := omega) only [e_gd, e_ix, e_oli2, e_oml2, e_obi2, e_obv2, e_add, e_mul, e_sub, e_eq, e_lt, e_le, e_eq0, e_0eq, e_lt0, e_0lt, e_le0, e_0le, e_m1, e_m1', e_m1lt, Nat.add_assoc, Nat.not_lt_zero, Nat.le_zero_eq, sr_1, sr_14, sr_70, sr_126, sr_182, sr_238, sr_244, sr_292, sr_298, sr_304, sr_310, sr_316, sr_358, sr_400, sr_442, sr_484, sr_526, sr_532, sr_538, so_586, sr_586, sr_2746, sr_2752, sr_3112, sr_3118, sr_3124, sr_3130, sr_6730, sr_6736, sr_6766, sr_6814, sr_6961, sr_6962, sr_7362, sr_7363, sr_7364, su_6961, su_7362, su_7363, st_1, st_14, st_70, st_126, st_182, st_238, st_244, sm_292, so_292, st_292, st_298, st_304, st_310, st_316, st_358, st_400, st_442, st_484, st_526, st_532, sm_538, so_538, st_538, sm_586, sn_586, sp_586, st_586, st_2746, st_2752, st_3112, st_3118, st_3124, st_3130, st_6730, st_6736, st_6766, st_6814, st_6961, st_6962, st_7362, st_7363, st_7364, sv_6961, sv_7362, sv_7363, sw_r, hl, oI_s, en, ea]
            rw [if_neg (by omega)]
        unfold xX12_ticksOf_74
        by_cases h3 : S 526 c < 3
        · rw [if_neg (by omega), if_pos (Or.inl h3), if_neg (by decide), e87 1 (Or.inr ⟨rfl, h3⟩)]
        · rw [if_pos (by omega), if_pos (by decide), r_must h hc (by omega) hl, e_obi2]
          by_cases hw : a_msg4 S c = 0 ∧ a_mrk S c l = 0
          · have hB : ¬ (S 526 c < 3 ∨ ¬ (a_msg4 S c = 0 ∧ a_mrk S c l = 0)) := fun e => e.elim h3 (fun e => e hw)
            rw [if_pos hw, if_pos (by decide), if_neg hB, r_afg h h1 (by omega) hc (by omega) hl (by omega) hs, e_obv2]
          · rw [if_neg hw, if_neg (by decide), if_pos (Or.inr hw), e87 0 (Or.inl ⟨rfl, h3⟩)]
