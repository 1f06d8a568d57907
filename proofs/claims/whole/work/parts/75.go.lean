/-! ===== how many misses ended ===== -/
theorem d_send {S : a_S} {f t k l mn ow wi nt wh : Nat} : a_send S f t k l mn ow wi nt wh 1 10 = S 1 10 := as_1 (by omega)
theorem d_settles {S : a_S} {nd l : Nat} : a_settles S nd l 1 10 = S 1 10 := by
  unfold a_settles a_givesAll
  (repeat' split) <;> first | rfl | exact ag_1 (by omega)
theorem d_ends {S : a_S} {c l : Nat} : a_ends S c l 1 10 = S 1 10 + 1 := by
  have e3 : a_ends3 S c l 1 10 = S 1 10 + 1 := by
    unfold a_ends3
    simp (disch := omega) only [sw_r, sw_at]
  unfold a_ends
  split
  · rw [at_1 (by omega)]
    unfold a_ends4
    rw [mk_o (by omega), sw_r (by omega), e3]
  · exact e3
theorem d_c272 {S : a_S} {nd l : Nat} : S 1 10 ≤ a_c272 S nd l 1 10 ∧ a_c272 S nd l 1 10 ≤ S 1 10 + 1 := by
  unfold a_c272
  split
  · rw [d_settles, d_ends]; omega
  · rw [d_settles]; omega
theorem d_c178 {S : a_S} {nd l mn ow wi : Nat} : S 1 10 ≤ a_c178 S nd l mn ow wi 1 10 ∧ a_c178 S nd l mn ow wi 1 10 ≤ S 1 10 + 1 := by
  unfold a_c178
  have e := d_c272 (S := a_take (if S 14 (8 * nd + l) = 0 then a_use S nd l else S) nd l mn ow wi) (nd := nd) (l := l)
  have e2 : a_take (if S 14 (8 * nd + l) = 0 then a_use S nd l else S) nd l mn ow wi 1 10 = S 1 10 := by
    rw [ta_o (by omega)]
    split
    · rw [us_o (by omega)]
    · rfl
  rw [e2] at e
  exact e
theorem d_del {S : a_S} {i : Nat} : S 1 10 ≤ a_del S i 1 10 ∧ a_del S i 1 10 ≤ S 1 10 + 1 := by
  have er : a_rm S i 1 10 = S 1 10 := rm_1 (by omega)
  have ea : ∀ nd f l w, a_answers (a_rm S i) nd f l w 1 10 = S 1 10 := by
    intro nd f l w
    have e2 : a_ans2 (a_rm S i) nd f l w 1 10 = S 1 10 := by rw [an2_o (by omega), er]
    unfold a_answers a_ans3 a_givesAll
    (repeat' split) <;> first | exact e2 | rw [ag_1 (by omega), e2]
  have ec : ∀ nd f l mn ow wi, S 1 10 ≤ a_comes (a_rm S i) nd f l mn ow wi 1 10 ∧ a_comes (a_rm S i) nd f l mn ow wi 1 10 ≤ S 1 10 + 1 := by
    intro nd f l mn ow wi
    have e1 : a_rem (a_rm S i) nd f l 1 10 = S 1 10 := by rw [re_o (by omega), er]
    unfold a_comes a_c82
    (repeat' split)
    · have := d_c272 (S := a_take (a_rm S i) nd l mn ow wi) (nd := nd) (l := l)
      rw [ta_o (by omega), er] at this
      exact this
    · have := d_c178 (S := a_evicts (a_rem (a_rm S i) nd f l) nd (a_eld (a_rem (a_rm S i) nd f l) nd l)) (nd := nd) (l := l) (mn := mn) (ow := ow) (wi := wi)
      rw [ev_1 (by omega), e1] at this
      exact this
    · rw [d_send, an_o (by omega), e1]; omega
    · have := d_c178 (S := a_rem (a_rm S i) nd f l) (nd := nd) (l := l) (mn := mn) (ow := ow) (wi := wi)
      rw [e1] at this
      exact this
  unfold a_del
  (repeat' split)
  · rw [ea]; omega
  · rw [ea]; omega
  · exact ec _ _ _ _ _ _
  · unfold a_asked
    split
    · rw [er]; omega
    · rw [d_settles, ak1_o (by omega), er]; omega
  · unfold a_reca
    split
    · rw [er]; omega
    · rw [d_settles, rc1_o (by omega), er]; omega
theorem d_begins {S : a_S} {c l w v : Nat} : a_begins S c l w v 1 10 = S 1 10 := by
  unfold a_begins
  split
  · unfold a_hit a_hit0
    rw [ad_o (by omega), an_o (by omega), sw_r (by omega), sw_i (by omega)]
  · unfold a_mis
    rw [ask_1 (by omega), an_o (by omega), mi0_o (by omega)]
theorem d_acts {S : a_S} {c : Nat} : a_acts S c 1 10 = S 1 10 := by
  unfold a_acts
  (repeat' split)
  · rfl
  · rw [sw_r (by omega), sw_r (by omega)]
  · rw [d_begins, sw_r (by omega)]
theorem d_tof {S : a_S} {c : Nat} : a_ticksOf S c 1 10 = S 1 10 := by
  unfold a_ticksOf
  (repeat' split)
  · rfl
  · unfold a_tk1
    rw [ask_1 (by omega), an_o (by omega), tk0_o (by omega)]
  · unfold a_afg
    rw [d_settles]
    unfold a_afg3
    rw [sw_r (by omega), sw_i (by omega), sw_r (by omega), af2_1 (by omega)]
theorem d_tickL : ∀ (m c : Nat) (S : a_S), a_tickL m c S 1 10 = S 1 10
  | 0, _, _ => rfl
  | m + 1, c, S => by rw [tl_s, d_tickL m, d_tof]
theorem d_tick {S : a_S} : a_tick S 1 10 = S 1 10 := by
  unfold a_tick
  rw [d_tickL, t0_o (by omega)]
/-! ===== going: the reference ===== -/
theorem nI_m (n : Nat) : nI (n % 4294967296) = nI n := by
  apply Int32.toBitVec_inj.1
  show BitVec.ofNat 32 (n % 4294967296) = BitVec.ofNat 32 n
  apply BitVec.eq_of_toNat_eq
  simp
theorem dr_eq (x : Nat) : ((1664525 : Int32) * nI x) + (1013904223 : Int32) = nI ((1664525 * x + 1013904223) % 4294967296) := by
  have e1 : (1664525 : Int32) = nI 1664525 := rfl
  have e2 : (1013904223 : Int32) = nI 1013904223 := rfl
  rw [nI_m, e1, e2, e_mul, e_add]
theorem r_draw {N : j_M} {S : a_S} {q : Nat} (h1 : 1 ≤ q) (hq : q ≤ 240) : xX12_draw (nI q) (RS N S) = some (nI (a_dr S 1 6 / 256 % q), RS N (a_dr S)) := by
  have hx : (1664525 * S 1 6 + 1013904223) % 4294967296 < 4294967296 := Nat.mod_lt _ (by omega)
  have e6 : a_dr S 1 6 = (1664525 * S 1 6 + 1013904223) % 4294967296 := by unfold a_dr; rw [sw_at]
  rw [e6]
  unfold a_dr
  generalize hy : (1664525 * S 1 6 + 1013904223) % 4294967296 = y at *
  have ed := dr_eq (S 1 6)
  rw [hy] at ed
  unfold xX12_draw
  simp (disch := omega) only [e_gd, e_ix, e_oli2, e_oml2, e_obi2, e_obv2, e_add, e_mul, e_sub, e_eq, e_lt, e_le, e_eq0, e_0eq, e_lt0, e_0lt, e_le0, e_0le, e_m1, e_m1', e_m1lt, Nat.add_assoc, Nat.not_lt_zero, Nat.le_zero_eq, sr_1, sr_14, sr_70, sr_126, sr_182, sr_238, sr_244, sr_292, sr_298, sr_304, sr_310, sr_316, sr_358, sr_400, sr_442, sr_484, sr_526, sr_532, sr_538, so_586, sr_586, sr_2746, sr_2752, sr_3112, sr_3118, sr_3124, sr_3130, sr_6730, sr_6736, sr_6766, sr_6814, sr_6961, sr_6962, sr_7362, sr_7363, sr_7364, su_6961, su_7362, su_7363, ed, st_1, st_14, st_70, st_126, st_182, st_238, st_244, sm_292, so_292, st_292, st_298, st_304, st_310, st_316, st_358, st_400, st_442, st_484, st_526, st_532, sm_538, so_538, st_538, sm_586, sn_586, sp_586, st_586, st_2746, st_2752, st_3112, st_3118, st_3124, st_3130, st_6730, st_6736, st_6766, st_6814, st_6961, st_6962, st_7362, st_7363, st_7364, sv_6961, sv_7362, sv_7363, sw_at, e_us, e_gn]
  rw [e_rem (by omega) (by omega) (by omega)]
theorem r_acts {N : j_M} {S : a_S} {c : Nat} (hi : INV S z0) (hp : PR S) (hc : c < S 1 0) (h9 : S 6961 0 < 2147482000) : xX12_actsOf (nI c) (RS N S) = some (RS N (a_acts S c)) := by
  have hn := g_n hi.1
  have hq := INV_q hi
  have htk := g_tk hi.1
  have hc1 := hp.1 c (by omega)
  have g := g_mv hi.1 c
  unfold xX12_actsOf a_acts
  simp (disch := omega) only [e_gd, e_ix, e_oli2, e_oml2, e_obi2, e_obv2, e_add, e_mul, e_sub, e_eq, e_lt, e_le, e_eq0, e_0eq, e_lt0, e_0lt, e_le0, e_0le, e_m1, e_m1', e_m1lt, Nat.add_assoc, Nat.not_lt_zero, Nat.le_zero_eq, sr_1, sr_14, sr_70, sr_126, sr_182, sr_238, sr_244, sr_292, sr_298, sr_304, sr_310, sr_316, sr_358, sr_400, sr_442, sr_484, sr_526, sr_532, sr_538, so_586, sr_586, sr_2746, sr_2752, sr_3112, sr_3118, sr_3124, sr_3130, sr_6730, sr_6736, sr_6766, sr_6814, sr_6961, sr_6962, sr_7362, sr_7363, sr_7364, su_6961, su_7362, su_7363]
  by_cases h1 : S 3118 c = S 3112 c
  · rw [if_pos h1, if_pos (Or.inl h1)]
  · rw [if_neg h1, f_om1 (by omega)]
    by_cases h2 : S 292 c = 0
    · rw [if_pos h2]
      by_cases h3 : S 1 5 < S 3124 c
      · rw [if_neg (by omega), if_pos (Or.inr (Or.inr h3))]
      · have hA : ¬ (S 3118 c = S 3112 c ∨ S 292 c ≠ 0 ∨ S 1 5 < S 3124 c) := by omega
        have ha := hp.2.1 c (S 3118 c) (by omega) (by omega)
        unfold AOK at ha
        simp only [Nat.add_zero] at ha
        have f7 := UD_f7 hi.1 hi.2.1 (c := c) (l := S 3130 (3 * (200 * c + S 3118 c) + 1)) (by omega)
        have i1 : INV (sw S 3118 c (S 3118 c + 1)) z0 := INV_scr hi (fun r i a b _ _ => by rw [sw_r a])
        rw [if_pos (by omega), if_neg hA]
        simp (disch := omega) only [e_gd, e_ix, e_oli2, e_oml2, e_obi2, e_obv2, e_add, e_mul, e_sub, e_eq, e_lt, e_le, e_eq0, e_0eq, e_lt0, e_0lt, e_le0, e_0le, e_m1, e_m1', e_m1lt, Nat.add_assoc, Nat.not_lt_zero, Nat.le_zero_eq, sr_1, sr_14, sr_70, sr_126, sr_182, sr_238, sr_244, sr_292, sr_298, sr_304, sr_310, sr_316, sr_358, sr_400, sr_442, sr_484, sr_526, sr_532, sr_538, so_586, sr_586, sr_2746, sr_2752, sr_3112, sr_3118, sr_3124, sr_3130, sr_6730, sr_6736, sr_6766, sr_6814, sr_6961, sr_6962, sr_7362, sr_7363, sr_7364, su_6961, su_7362, su_7363, st_1, st_14, st_70, st_126, st_182, st_238, st_244, sm_292, so_292, st_292, st_298, st_304, st_310, st_316, st_358, st_400, st_442, st_484, st_526, st_532, sm_538, so_538, st_538, sm_586, sn_586, sp_586, st_586, st_2746, st_2752, st_3112, st_3118, st_3124, st_3130, st_6730, st_6736, st_6766, st_6814, st_6961, st_6962, st_7362, st_7363, st_7364, sv_6961, sv_7362, sv_7363, sw_r]
        by_cases h4 : S 3130 (3 * (200 * c + S 3118 c)) = 3
        · rw [if_pos h4, if_pos h4]
        · rw [if_neg h4, if_neg h4, r_begins i1.1 (by rw [sw_r (by omega)]; omega) (by omega) (by omega) (by omega) (by omega) (by rw [sw_r (by omega)]; omega) (UD_f7 i1.1 i1.2.1 (by omega) (by omega)), e_obi2]
    · rw [if_neg h2, if_pos (Or.inr (Or.inl h2))]
theorem st_actL {r j : Nat} (h : stt r j) (h2 : r ≠ 3118 ∧ r ≠ 3124) : ∀ (m c : Nat) (S : a_S), a_actL m c S r j = S r j
  | 0, _, _ => rfl
  | m + 1, c, S => by rw [actL_s, st_actL h h2 m, st_acts h h2]
theorem OK_actL : ∀ (m c : Nat) (S : a_S), INV S z0 → PR S → c + m ≤ S 1 0 → INV (a_actL m c S) z0 ∧ PR (a_actL m c S) ∧ a_actL m c S 6961 0 ≤ S 6961 0 + m ∧ a_actL m c S 1 10 = S 1 10
  | 0, _, _, hi, hp, _ => ⟨hi, hp, Nat.le_refl _, rfl⟩
  | m + 1, c, S, hi, hp, hm => by
    have hn := g_n hi.1
    have e0 : a_acts S c 1 0 = S 1 0 := st_acts (Or.inl ⟨rfl, by omega⟩) (by omega)
    have t1 := t_acts (S := S) (c := c)
    have ih := OK_actL m (c + 1) (a_acts S c) (INV_acts hi hp (by omega)) (PR_acts hp (by omega) (g_tk hi.1)) (by rw [e0]; omega)
    rw [actL_s]
    exact ⟨ih.1, ih.2.1, by omega, by rw [ih.2.2.2, d_acts]⟩
theorem r_actL {N : j_M} {l o b r : Int32} (K : Int32 → Int32 → Int32 → Int32 → j_M → Option (Int32 × j_M)) : ∀ (m n c : Nat) (S : a_S), INV S z0 → PR S → c + m = S 1 0 → S 6961 0 + m < 2147482000 → xX12_go_55 K (n + m + 1) l o b r (nI c) (RS N S) = xX12_go_81 K fu l o b r (nI 0) (RS N (a_actL m c S))
  | 0, n, c, S, hi, hp, hm, h9 => by
    have hn := g_n hi.1
    rw [show n + 0 + 1 = n + 1 from rfl, xX12_go_55.eq_2]
    simp (disch := omega) only [e_gd, e_ix, e_oli2, e_oml2, e_obi2, e_obv2, e_add, e_mul, e_sub, e_eq, e_lt, e_le, e_eq0, e_0eq, e_lt0, e_0lt, e_le0, e_0le, e_m1, e_m1', e_m1lt, Nat.add_assoc, Nat.not_lt_zero, Nat.le_zero_eq, sr_1, sr_14, sr_70, sr_126, sr_182, sr_238, sr_244, sr_292, sr_298, sr_304, sr_310, sr_316, sr_358, sr_400, sr_442, sr_484, sr_526, sr_532, sr_538, so_586, sr_586, sr_2746, sr_2752, sr_3112, sr_3118, sr_3124, sr_3130, sr_6730, sr_6736, sr_6766, sr_6814, sr_6961, sr_6962, sr_7362, sr_7363, sr_7364, su_6961, su_7362, su_7363, if_pos]
    rfl
  | m + 1, n, c, S, hi, hp, hm, h9 => by
    have hn := g_n hi.1
    have e0 : a_acts S c 1 0 = S 1 0 := st_acts (Or.inl ⟨rfl, by omega⟩) (by omega)
    have t1 := t_acts (S := S) (c := c)
    have ih := r_actL (N := N) (l := l) (o := o) (b := b) (r := r) K m n (c + 1) (a_acts S c) (INV_acts hi hp (by omega)) (PR_acts hp (by omega) (g_tk hi.1)) (by rw [e0]; omega) (by omega)
    rw [show n + (m + 1) + 1 = (n + m + 1) + 1 by omega, xX12_go_55.eq_2]
    simp (disch := omega) only [e_gd, e_ix, e_oli2, e_oml2, e_obi2, e_obv2, e_add, e_mul, e_sub, e_eq, e_lt, e_le, e_eq0, e_0eq, e_lt0, e_0lt, e_le0, e_0le, e_m1, e_m1', e_m1lt, Nat.add_assoc, Nat.not_lt_zero, Nat.le_zero_eq, sr_1, sr_14, sr_70, sr_126, sr_182, sr_238, sr_244, sr_292, sr_298, sr_304, sr_310, sr_316, sr_358, sr_400, sr_442, sr_484, sr_526, sr_532, sr_538, so_586, sr_586, sr_2746, sr_2752, sr_3112, sr_3118, sr_3124, sr_3130, sr_6730, sr_6736, sr_6766, sr_6814, sr_6961, sr_6962, sr_7362, sr_7363, sr_7364, su_6961, su_7362, su_7363, r_acts hi hp (show c < S 1 0 by omega) (show S 6961 0 < 2147482000 by omega)]
    rw [if_neg (by omega), show n + (m + 1) = n + m + 1 from rfl, ih, actL_s]
def a_gd (o : Nat) : Nat → a_S → a_S
  | 0, S => S
  | k + 1, S => if S 1 7 = 0 then S else if o = 0 then a_gd o k (a_del S 0) else if o = 1 then a_gd o k (a_del S (S 1 7 - 1)) else a_gd o k (a_del (a_dr S) (a_dr S 1 6 / 256 % S 1 7))
theorem gd_s {o k : Nat} {S : a_S} : a_gd o (k + 1) S = if S 1 7 = 0 then S else if o = 0 then a_gd o k (a_del S 0) else if o = 1 then a_gd o k (a_del S (S 1 7 - 1)) else a_gd o k (a_del (a_dr S) (a_dr S 1 6 / 256 % S 1 7)) := rfl
theorem dr_o {S : a_S} {r i : Nat} (h : ¬ (r = 1 ∧ i = 6)) : a_dr S r i = S r i := by
  unfold a_dr
  rw [sw_ne h]
theorem INV_dr {S : a_S} {h : Nat → Nat} (hi : INV S h) : INV (a_dr S) h := INV_scr hi (fun r i _ _ _ d => dr_o d)
theorem OK_gd {o : Nat} : ∀ (k : Nat) (S : a_S), INV S z0 → INV (a_gd o k S) z0 ∧ a_gd o k S 6961 0 ≤ S 6961 0 + 2 * k ∧ (∀ r j, stt r j → ¬ (r = 1 ∧ j = 6) → a_gd o k S r j = S r j) ∧ S 1 10 ≤ a_gd o k S 1 10 ∧ a_gd o k S 1 10 ≤ S 1 10 + k
  | 0, S, hi => ⟨hi, Nat.le_refl _, fun _ _ _ _ => rfl, Nat.le_refl _, Nat.le_refl _⟩
  | k + 1, S, hi => by
    rw [gd_s]
    have key : ∀ (A : a_S) (i : Nat), INV A z0 → i < A 1 7 → A 6961 0 = S 6961 0 → A 1 10 = S 1 10 → (∀ r j, stt r j → ¬ (r = 1 ∧ j = 6) → A r j = S r j) → INV (a_gd o k (a_del A i)) z0 ∧ a_gd o k (a_del A i) 6961 0 ≤ S 6961 0 + 2 * (k + 1) ∧ (∀ r j, stt r j → ¬ (r = 1 ∧ j = 6) → a_gd o k (a_del A i) r j = S r j) ∧ S 1 10 ≤ a_gd o k (a_del A i) 1 10 ∧ a_gd o k (a_del A i) 1 10 ≤ S 1 10 + (k + 1) := by
      intro A i hA hiA h6 h10 hst
      have ih := OK_gd (o := o) k (a_del A i) (INV_del hA hiA)
      have t1 := t_del (S := A) (i := i)
      have d1 := d_del (S := A) (i := i)
      refine ⟨ih.1, by omega, fun r j h1 h2 => ?_, by omega, by omega⟩
      rw [ih.2.2.1 r j h1 h2, st_del h1, hst r j h1 h2]
    split
    · exact ⟨hi, by omega, fun _ _ _ _ => rfl, by omega, by omega⟩
    · split
      · exact key S 0 hi (by omega) rfl rfl (fun _ _ _ _ => rfl)
      · split
        · exact key S _ hi (by omega) rfl rfl (fun _ _ _ _ => rfl)
        · refine key (a_dr S) _ (INV_dr hi) ?_ (dr_o (by omega)) (dr_o (by omega)) (fun r j _ h2 => dr_o h2)
          rw [dr_o (r := 1) (i := 7) (by omega)]
          exact Nat.mod_lt _ (by omega)
theorem r_gd {o : Nat} (ho : o ≤ 2) {l b r : Int32} (K : Int32 → Int32 → Int32 → Int32 → j_M → Option (Int32 × j_M)) : ∀ (m n k : Nat) (N : j_M) (S : a_S), INV S z0 → k + m = 3 → S 6961 0 + 2 * m < 2147481000 → ∃ x, xX12_go_81 K (n + m + 1) l (nI o) b r (nI k) (RS N S) = xX12_go_144 K l (nI o) b r (RS (w4 N x) (a_gd o m S))
  | 0, n, k, N, S, hi, hk, h9 => by
    refine ⟨N 204, ?_⟩
    rw [show n + 0 + 1 = n + 1 from rfl, xX12_go_81.eq_2, w4_id]
    simp (disch := omega) only [e_gd, e_ix, e_oli2, e_oml2, e_obi2, e_obv2, e_add, e_mul, e_sub, e_eq, e_lt, e_le, e_eq0, e_0eq, e_lt0, e_0lt, e_le0, e_0le, e_m1, e_m1', e_m1lt, Nat.add_assoc, Nat.not_lt_zero, Nat.le_zero_eq, if_pos]
    rfl
  | m + 1, n, k, N, S, hi, hk, h9 => by
    have hq := INV_q hi
    rw [show n + (m + 1) + 1 = (n + m + 1) + 1 by omega, xX12_go_81.eq_2, gd_s]
    by_cases h0 : S 1 7 = 0
    · refine ⟨N 204, ?_⟩
      rw [w4_id, if_pos h0]
      simp (disch := omega) only [e_gd, e_ix, e_oli2, e_oml2, e_obi2, e_obv2, e_add, e_mul, e_sub, e_eq, e_lt, e_le, e_eq0, e_0eq, e_lt0, e_0lt, e_le0, e_0le, e_m1, e_m1', e_m1lt, Nat.add_assoc, Nat.not_lt_zero, Nat.le_zero_eq, sr_1, sr_14, sr_70, sr_126, sr_182, sr_238, sr_244, sr_292, sr_298, sr_304, sr_310, sr_316, sr_358, sr_400, sr_442, sr_484, sr_526, sr_532, sr_538, so_586, sr_586, sr_2746, sr_2752, sr_3112, sr_3118, sr_3124, sr_3130, sr_6730, sr_6736, sr_6766, sr_6814, sr_6961, sr_6962, sr_7362, sr_7363, sr_7364, su_6961, su_7362, su_7363]
      rw [if_neg (by omega), if_pos h0]
    · have key : ∀ (A : a_S) (i : Nat), INV A z0 → i < A 1 7 → A 6961 0 = S 6961 0 → ∃ x, xX12_go_134 K (xX12_go_81 K (n + m + 1)) l (nI o) b r (nI k) (nI i) (RS N A) = xX12_go_144 K l (nI o) b r (RS (w4 N x) (a_gd o m (a_del A i))) := by
        intro A i hA hiA h6
        obtain ⟨x, ex⟩ := q_del (N := N) (i := i) hA hiA (by omega)
        have td := t_del (S := A) (i := i)
        obtain ⟨y, ey⟩ := r_gd ho (l := l) (b := b) (r := r) K m n (k + 1) (w4 N x) (a_del A i) (INV_del hA hiA) (by omega) (by omega)
        refine ⟨y, ?_⟩
        rw [w4_4] at ey
        unfold xX12_go_134
        rw [ex, e_obi2, e_add, ey]
      rw [if_neg h0]
      simp (disch := omega) only [e_gd, e_ix, e_oli2, e_oml2, e_obi2, e_obv2, e_add, e_mul, e_sub, e_eq, e_lt, e_le, e_eq0, e_0eq, e_lt0, e_0lt, e_le0, e_0le, e_m1, e_m1', e_m1lt, Nat.add_assoc, Nat.not_lt_zero, Nat.le_zero_eq, sr_1, sr_14, sr_70, sr_126, sr_182, sr_238, sr_244, sr_292, sr_298, sr_304, sr_310, sr_316, sr_358, sr_400, sr_442, sr_484, sr_526, sr_532, sr_538, so_586, sr_586, sr_2746, sr_2752, sr_3112, sr_3118, sr_3124, sr_3130, sr_6730, sr_6736, sr_6766, sr_6814, sr_6961, sr_6962, sr_7362, sr_7363, sr_7364, su_6961, su_7362, su_7363]
      rw [if_neg (show ¬ 3 ≤ k by omega), if_neg h0, show n + (m + 1) = n + m + 1 from rfl]
      by_cases o0 : o = 0
      · obtain ⟨x, ex⟩ := key S 0 hi (by omega) rfl
        refine ⟨x, ?_⟩
        rw [if_pos o0, if_pos o0]
        exact ex
      · rw [if_neg o0, if_neg o0]
        by_cases o1 : o = 1
        · obtain ⟨x, ex⟩ := key S (S 1 7 - 1) hi (by omega) rfl
          refine ⟨x, ?_⟩
          rw [if_pos o1, if_pos o1]
          exact ex
        · obtain ⟨x, ex⟩ := key (a_dr S) (a_dr S 1 6 / 256 % S 1 7) (INV_dr hi) (by rw [dr_o (r := 1) (i := 7) (by omega)]; exact Nat.mod_lt _ (by omega)) (dr_o (by omega))
          refine ⟨x, ?_⟩
          rw [if_neg o1, if_neg o1, r_draw (by omega) (by omega), e_obi2]
          exact ex
def a_go1 (o : Nat) (S : a_S) : a_S := a_tick (a_gd o 3 (a_actL (S 1 0) 0 S))
def a_goN (o : Nat) : Nat → a_S → a_S
  | 0, S => S
  | n + 1, S => a_goN o n (a_go1 o S)
theorem goN_s {o m : Nat} {S : a_S} : a_goN o (m + 1) S = a_goN o m (a_go1 o S) := rfl
theorem OK_go1 {o : Nat} {S : a_S} (hi : INV S z0) (hp : PR S) (h5 : S 1 5 < 10100) : INV (a_go1 o S) z0 ∧ PR (a_go1 o S) ∧ a_go1 o S 6961 0 ≤ S 6961 0 + 18 ∧ a_go1 o S 1 5 = S 1 5 + 1 ∧ (∀ r j, stt r j → ¬ (r = 1 ∧ (j = 5 ∨ j = 6)) → r ≠ 3118 → r ≠ 3124 → a_go1 o S r j = S r j) ∧ S 1 10 ≤ a_go1 o S 1 10 ∧ a_go1 o S 1 10 ≤ S 1 10 + 3 := by
  have hn := g_n hi.1
  have h1 := OK_actL (S 1 0) 0 S hi hp (by omega)
  have h2 := OK_gd (o := o) 3 _ h1.1
  have e5 : a_gd o 3 (a_actL (S 1 0) 0 S) 1 5 = S 1 5 := by
    rw [h2.2.2.1 1 5 (Or.inl ⟨rfl, by omega⟩) (by omega), st_actL (Or.inl ⟨rfl, by omega⟩) (by omega)]
  have e0 : a_gd o 3 (a_actL (S 1 0) 0 S) 1 0 = S 1 0 := by
    rw [h2.2.2.1 1 0 (Or.inl ⟨rfl, by omega⟩) (by omega), st_actL (Or.inl ⟨rfl, by omega⟩) (by omega)]
  have t3 := t_tick (S := a_gd o 3 (a_actL (S 1 0) 0 S)) (by omega)
  unfold a_go1
  refine ⟨INV_tick h2.1 (by omega), ?_, by omega, by rw [tick_5, e5], fun r j a b c d => ?_, by rw [d_tick]; omega, by rw [d_tick]; omega⟩
  · refine PR_c h1.2.1 (fun r i hr => ?_)
    rw [st_tick (by unfold stt; omega) (by omega), h2.2.2.1 r i (by unfold stt; omega) (by omega)]
  · rw [st_tick a (by omega), h2.2.2.1 r j a (by omega), st_actL a ⟨c, d⟩]
theorem OK_goN {o : Nat} : ∀ (m : Nat) (S : a_S), INV S z0 → PR S → S 1 5 + m ≤ 10100 → INV (a_goN o m S) z0 ∧ PR (a_goN o m S) ∧ a_goN o m S 6961 0 ≤ S 6961 0 + 18 * m ∧ a_goN o m S 1 5 = S 1 5 + m ∧ (∀ r j, stt r j → ¬ (r = 1 ∧ (j = 5 ∨ j = 6)) → r ≠ 3118 → r ≠ 3124 → a_goN o m S r j = S r j) ∧ S 1 10 ≤ a_goN o m S 1 10 ∧ a_goN o m S 1 10 ≤ S 1 10 + 3 * m
  | 0, S, hi, hp, _ => ⟨hi, hp, Nat.le_refl _, rfl, fun _ _ _ _ _ _ => rfl, Nat.le_refl _, Nat.le_refl _⟩
  | m + 1, S, hi, hp, h5 => by
    have h1 := OK_go1 (o := o) hi hp (by omega)
    have ih := OK_goN (o := o) m (a_go1 o S) h1.1 h1.2.1 (by omega)
    rw [goN_s]
    refine ⟨ih.1, ih.2.1, by omega, by omega, fun r j a b c d => ?_, by omega, by omega⟩
    rw [ih.2.2.2.2.1 r j a b c d, h1.2.2.2.2.1 r j a b c d]
theorem r_goN {o : Nat} (ho : o ≤ 2) {w : Nat} : ∀ (m n k l : Nat) (N : j_M) (S : a_S), INV S z0 → PR S → k + m = l → l ≤ 60 → S 1 5 + m ≤ 10100 → S 6961 0 + 18 * m < 2147470000 → w ≤ S 1 10 → ∃ x, xX12_go_46 (n + m + 1) (nI l) (nI o) (nI w) (nI k) (RS N S) = some (nI (a_goN o m S 1 10 - w), RS (w4 N x) (a_goN o m S))
  | 0, n, k, l, N, S, hi, hp, hk, hl, h5, h9, hw => by
    refine ⟨N 204, ?_⟩
    rw [show n + 0 + 1 = n + 1 from rfl, xX12_go_46.eq_2, w4_id]
    simp (disch := omega) only [e_gd, e_ix, e_oli2, e_oml2, e_obi2, e_obv2, e_add, e_mul, e_sub, e_eq, e_lt, e_le, e_eq0, e_0eq, e_lt0, e_0lt, e_le0, e_0le, e_m1, e_m1', e_m1lt, Nat.add_assoc, Nat.not_lt_zero, Nat.le_zero_eq, sr_1, sr_14, sr_70, sr_126, sr_182, sr_238, sr_244, sr_292, sr_298, sr_304, sr_310, sr_316, sr_358, sr_400, sr_442, sr_484, sr_526, sr_532, sr_538, so_586, sr_586, sr_2746, sr_2752, sr_3112, sr_3118, sr_3124, sr_3130, sr_6730, sr_6736, sr_6766, sr_6814, sr_6961, sr_6962, sr_7362, sr_7363, sr_7364, su_6961, su_7362, su_7363, if_pos]
    rfl
  | m + 1, n, k, l, N, S, hi, hp, hk, hl, h5, h9, hw => by
    have hn := g_n hi.1
    have h1 := OK_go1 (o := o) hi hp (by omega)
    have a1 := OK_actL (S 1 0) 0 S hi hp (by omega)
    have a2 := OK_gd (o := o) 3 _ a1.1
    have e5 : a_gd o 3 (a_actL (S 1 0) 0 S) 1 5 = S 1 5 := by
      rw [a2.2.2.1 1 5 (Or.inl ⟨rfl, by omega⟩) (by omega), st_actL (Or.inl ⟨rfl, by omega⟩) (by omega)]
    have e1 := r_actL (N := N) (l := nI l) (o := nI o) (b := nI w) (r := nI k) (xX12_go_46 (n + m + 1)) (S 1 0) (1000000 - (S 1 0 + 1)) 0 S hi hp (by omega) (by omega)
    rw [show 1000000 - (S 1 0 + 1) + S 1 0 + 1 = fu by unfold fu; omega] at e1
    obtain ⟨x, e2⟩ := r_gd ho (l := nI l) (b := nI w) (r := nI k) (xX12_go_46 (n + m + 1)) 3 (1000000 - 4) 0 N (a_actL (S 1 0) 0 S) a1.1 (by omega) (by omega)
    rw [show 1000000 - 4 + 3 + 1 = fu by unfold fu; omega] at e2
    obtain ⟨y, ey⟩ := r_goN ho (w := w) m n (k + 1) l (w4 N x) (a_go1 o S) h1.1 h1.2.1 (by omega) hl (by omega) (by omega) (by omega)
    refine ⟨y, ?_⟩
    rw [w4_4] at ey
    have et := r_tick (N := w4 N x) a2.1 (by omega) (by omega)
    rw [show n + (m + 1) + 1 = (n + m + 1) + 1 by omega, xX12_go_46.eq_2, f_le (by omega) (by omega), if_neg (by omega), e1, e2]
    unfold xX12_go_144
    rw [et, e_obv2, e_add, goN_s]
    exact ey
