/-! ===== the class: ticks ===== -/
theorem ma_ {S : a_S} {i : Nat} {M : j_M} (h : RG S) : xX2_isMarked (nI (ev S i)) M = some (nI (S 484 i), M) := v_mark (g_ev h i).1 (g_ev h i).2.1
theorem cg_lt {S : a_S} (h : RG S) (k : Nat) : cgv (fd S k) < 524288 ∧ fd S k 0 < 8 ∧ fd S k 1 < 8 ∧ fd S k 2 < 8 ∧ fd S k 3 < 8 := by
  have g := g_f h k
  have f0 : fd S k 0 = S 586 (9 * k) := rfl
  have f1 : fd S k 1 = S 586 (9 * k + 1) := rfl
  have f2 : fd S k 2 = S 586 (9 * k + 2) := rfl
  have f3 : fd S k 3 = S 586 (9 * k + 3) := rfl
  have f4 : fd S k 4 = S 586 (9 * k + 4) := rfl
  have f5 : fd S k 5 = S 586 (9 * k + 5) := rfl
  have f6 : fd S k 6 = S 586 (9 * k + 6) := rfl
  have f7 : fd S k 7 = S 586 (9 * k + 7) := rfl
  have f8 : fd S k 8 = S 586 (9 * k + 8) := rfl
  unfold cgv
  omega
theorem x_msg4_l {N : j_M} {t c : Nat} {S : a_S} (h : RG S) (hv : VM S) (hc : c < 6) : ∀ (m n k : Nat), k + m = S 1 7 → xX1_mustWait_59 t (n + m + 1) (nI c) (nI k) (XS N t S) = some (if fr (fun i => S 586 (9 * i) = c ∧ 4 ≤ S 586 (9 * i + 2)) m k = 0 then nI 0 else nI 1, XS N t S)
  | 0, n, k, hk => by
    have hq : S 1 7 ≤ 240 := (h 1 7).1 rfl |>.2.2.2.2.2.2 rfl
    rw [show n + 0 + 1 = n + 1 from rfl, xX1_mustWait_59.eq_2]
    simp (disch := omega) only [e_gd, e_ix, e_oli2, e_oml2, e_obi2, e_obv2, e_add, e_mul, e_sub, e_eq, e_lt, e_le, e_eq0, e_0eq, e_lt0, e_0lt, e_le0, e_0le, e_m1, e_m1', e_m1lt, Nat.add_assoc, Nat.not_lt_zero, Nat.le_zero_eq, Nat.reduceAdd, xr_4, xr_5, xr_6, xr_7, xr_13, xr_14, xr_3, xr_10, xr_11, xr_12, xr_15, xr_16, xr_17, xr_18, xr_19, xr_0_8, xr_0_9, xr_0_10, xr_0_11, xr_0_12, xr_0_13, xr_0_14, xr_8_11, xr_8_12, xr_8_13, xr_8_14, xr_h, xr_e, xr_u, xr_m, xr_2, xr_9, if_pos]
    rfl
  | m + 1, n, k, hk => by
    have hq : S 1 7 ≤ 240 := (h 1 7).1 rfl |>.2.2.2.2.2.2 rfl
    have g := g_f h k
    have v := hv k (by omega)
    have cg := cg_lt h k
    have f0 : fd S k 0 = S 586 (9 * k) := rfl
    have f2 : fd S k 2 = S 586 (9 * k + 2) := rfl
    rw [show n + (m + 1) + 1 = (n + m + 1) + 1 by omega, xX1_mustWait_59.eq_2]
    simp (disch := omega) only [e_gd, e_ix, e_oli2, e_oml2, e_obi2, e_obv2, e_add, e_mul, e_sub, e_eq, e_lt, e_le, e_eq0, e_0eq, e_lt0, e_0lt, e_le0, e_0le, e_m1, e_m1', e_m1lt, Nat.add_assoc, Nat.not_lt_zero, Nat.le_zero_eq, Nat.reduceAdd, xr_4, xr_5, xr_6, xr_7, xr_13, xr_14, xr_3, xr_10, xr_11, xr_12, xr_15, xr_16, xr_17, xr_18, xr_19, xr_0_8, xr_0_9, xr_0_10, xr_0_11, xr_0_12, xr_0_13, xr_0_14, xr_8_11, xr_8_12, xr_8_13, xr_8_14, xr_h, xr_e, xr_u, xr_m, xr_2, xr_9, lc_fd v, l_kind, l_from]
    rw [if_neg (by omega), show n + (m + 1) = n + m + 1 from rfl, x_msg4_l h hv hc m n (k + 1) (by omega), fr_s, f0, f2]
    by_cases h1 : S 586 (9 * k) = c ∧ 4 ≤ S 586 (9 * k + 2)
    · rw [if_pos h1.1, if_neg (by omega), if_pos h1, if_neg (by omega)]
    · rw [if_neg h1]
      by_cases a : S 586 (9 * k) = c
      · rw [if_pos a, if_pos (by omega)]
      · rw [if_neg a]
theorem x_mrk_l {N : j_M} {t c l : Nat} {S : a_S} (h : RG S) (hc : c < 6) (hl : l < 8) : ∀ (m n k : Nat), k + m = S 1 0 → xX1_mustWait_11 t (n + m + 1) (nI c) (nI l) (nI (bk c + 8)) (nI k) (XS N t S) = if fr (fun o => S 484 (6 * c + o) = 1 ∧ S 358 (6 * c + o) = 1 ∧ S 400 (6 * c + o) = l) m k = 0 then xX1_mustWait_59 t fu (nI c) (nI 0) (XS N t S) else some (nI 1, XS N t S)
  | 0, n, k, hk => by
    have hn := g_n h
    rw [show n + 0 + 1 = n + 1 from rfl, xX1_mustWait_11.eq_2]
    simp (disch := omega) only [e_gd, e_ix, e_oli2, e_oml2, e_obi2, e_obv2, e_add, e_mul, e_sub, e_eq, e_lt, e_le, e_eq0, e_0eq, e_lt0, e_0lt, e_le0, e_0le, e_m1, e_m1', e_m1lt, Nat.add_assoc, Nat.not_lt_zero, Nat.le_zero_eq, Nat.reduceAdd, xr_4, xr_5, xr_6, xr_7, xr_13, xr_14, xr_3, xr_10, xr_11, xr_12, xr_15, xr_16, xr_17, xr_18, xr_19, xr_0_8, xr_0_9, xr_0_10, xr_0_11, xr_0_12, xr_0_13, xr_0_14, xr_8_11, xr_8_12, xr_8_13, xr_8_14, xr_h, xr_e, xr_u, xr_m, xr_2, xr_9, if_pos]
    rfl
  | m + 1, n, k, hk => by
    have hn := g_n h
    have hb := bk_le c
    have g := g_ev h (6 * c + k)
    have ih := x_mrk_l (N := N) (t := t) h hc hl m n (k + 1) (by omega)
    rw [show n + (m + 1) + 1 = (n + m + 1) + 1 by omega, xX1_mustWait_11.eq_2]
    simp (disch := omega) only [e_gd, e_ix, e_oli2, e_oml2, e_obi2, e_obv2, e_add, e_mul, e_sub, e_eq, e_lt, e_le, e_eq0, e_0eq, e_lt0, e_0lt, e_le0, e_0le, e_m1, e_m1', e_m1lt, Nat.add_assoc, Nat.not_lt_zero, Nat.le_zero_eq, Nat.reduceAdd, xr_4, xr_5, xr_6, xr_7, xr_13, xr_14, xr_3, xr_10, xr_11, xr_12, xr_15, xr_16, xr_17, xr_18, xr_19, xr_0_8, xr_0_9, xr_0_10, xr_0_11, xr_0_12, xr_0_13, xr_0_14, xr_8_11, xr_8_12, xr_8_13, xr_8_14, xr_h, xr_e, xr_u, xr_m, xr_2, xr_9, ea_ h hl, ma_ h]
    rw [if_neg (by omega), show n + (m + 1) = n + m + 1 from rfl, ih, fr_s]
    by_cases a : S 358 (6 * c + k) = 1 ∧ S 400 (6 * c + k) = l
    · rw [if_pos a, if_neg (by decide)]
      by_cases b : S 484 (6 * c + k) = 1
      · have p : S 484 (6 * c + k) = 1 ∧ S 358 (6 * c + k) = 1 ∧ S 400 (6 * c + k) = l := ⟨b, a.1, a.2⟩
        have q : ¬ S 484 (6 * c + k) = 0 := by omega
        rw [if_neg q, if_pos p, if_neg (by omega)]
      · have p : ¬ (S 484 (6 * c + k) = 1 ∧ S 358 (6 * c + k) = 1 ∧ S 400 (6 * c + k) = l) := fun e => b e.1
        have q : S 484 (6 * c + k) = 0 := by omega
        rw [if_pos q, if_neg p]
    · have p : ¬ (S 484 (6 * c + k) = 1 ∧ S 358 (6 * c + k) = 1 ∧ S 400 (6 * c + k) = l) := fun e => a e.2
      rw [if_neg a, if_pos (by decide), if_neg p]
theorem x_must {N : j_M} {t c l : Nat} {S : a_S} (h : RG S) (hv : VM S) (hc : c < 6) (hl : l < 8) : xX1_mustWait t (nI c) (nI l) (XS N t S) = some (if a_msg4 S c = 0 ∧ a_mrk S c l = 0 then nI 0 else nI 1, XS N t S) := by
  have hq : S 1 7 ≤ 240 := (h 1 7).1 rfl |>.2.2.2.2.2.2 rfl
  have hn := g_n h
  have e1 := x_msg4_l (N := N) (t := t) h hv hc (S 1 7) (1000000 - (S 1 7 + 1)) 0 (by omega)
  have e2 := x_mrk_l (N := N) (t := t) h hc hl (S 1 0) (1000000 - (S 1 0 + 1)) 0 (by omega)
  rw [Nat.add_assoc, ← fu_s (S 1 7 + 1) (by omega)] at e1
  rw [Nat.add_assoc, ← fu_s (S 1 0 + 1) (by omega)] at e2
  unfold xX1_mustWait
  rw [x_blk (by omega), e_obi2, e_add, e2, e1]
  unfold a_msg4 a_mrk
  (repeat' split) <;> first | rfl | (exfalso; omega)
theorem x_tk1 {N : j_M} {t c l : Nat} {S : a_S} (ht : t ≠ 0) (hi : INV S z0) (hc : c < S 1 0) (hl : l < 8) (hm : S 292 c = l + 1) (h9 : S 6961 0 < 2147482000) (K : Int32 → j_M → Option j_M) : ∀ A : a_S, A = sw S 526 c (S 526 c + (if S 526 c < 3 then 1 else 0)) → xX1_tickOnce_122 K t (nI c) (nI (msv S c)) (XS N t A) = K (nI (c + 1)) (XS N t (a_tk1 S c l)) := by
  intro A hA
  have hn := g_n hi.1
  have hq := INV_q hi
  have g := g_mv hi.1 c
  have htk := g_tk hi.1
  have at0 : sw A 532 c (S 1 5) = a_tk0 S c := by rw [hA]; rfl
  have A1 : ∀ i, A 1 i = S 1 i := fun i => by rw [hA, sw_r (by omega)]
  have o : ∀ r i, r ≠ 526 → r ≠ 532 → a_tk0 S c r i = S r i := fun r i a b => tk0_o ⟨a, b⟩
  have o5 : 1 ≤ a_tk0 S c 526 c := by
    unfold a_tk0
    rw [sw_r (by omega), sw_at]
    split <;> omega
  have sl := s_line (M := XS N t (a_tk0 S c)) (w := S 298 c) (l := l) (g := S 310 c) (v := S 304 c) g.1 hl g.2.1 g.2.2.1
  rw [← msv_l hm] at sl
  have r0 := RG_tk0 (c := c) hi.1
  have en := x_note (N := N) (t := t) (w := 6) (c := c) (l := l) (tk := S 1 5) (S := a_tk0 S c) ht (by omega) (by omega) hl (by rw [tk0_o (by omega)]) (by rw [tk0_o (by omega)]; exact htk) (by rw [tk0_o (by omega)]; omega)
  have ea := x_ask (N := N) (t := t) (c := c) (l := l) (S := a_notes (a_tk0 S c) 6 c l) ht (RG_notes r0) (VM_c hi.2.2.2.1 (fun i => by rw [an_o (by omega), tk0_o (by omega)]) (by rw [an_o (by omega), tk0_o (by omega)]) (by rw [an_o (by omega), tk0_o (by omega)])) (by rw [mq_c (S := S) (fun i => by rw [an_o (by omega), tk0_o (by omega)]) (by rw [an_o (by omega), tk0_o (by omega)])]; exact hi.2.2.2.2.2.1.1) (HG_c hi.2.2.2.2.2.2.2.2.1 (fun i => by rw [an_o (by omega), tk0_o (by omega)]) (fun i => by rw [an_o (by omega), tk0_o (by omega)])) (by omega) hl (by rw [an_o (by omega), tk0_o (by omega)]; omega) (by rw [an_o (by omega), tk0_o (by omega)]; exact hm) (by rw [an_o (by omega)]; exact o5)
  have fin : a_asks (a_notes (a_tk0 S c) 6 c l) c l = a_tk1 S c l := rfl
  rw [fin] at ea
  unfold xX1_tickOnce_122
  simp (disch := omega) only [e_gd, e_ix, e_oli2, e_oml2, e_obi2, e_obv2, e_add, e_mul, e_sub, e_eq, e_lt, e_le, e_eq0, e_0eq, e_lt0, e_0lt, e_le0, e_0le, e_m1, e_m1', e_m1lt, Nat.add_assoc, Nat.not_lt_zero, Nat.le_zero_eq, Nat.reduceAdd, xr_4, xr_5, xr_6, xr_7, xr_13, xr_14, xr_3, xr_10, xr_11, xr_12, xr_15, xr_16, xr_17, xr_18, xr_19, xr_0_8, xr_0_9, xr_0_10, xr_0_11, xr_0_12, xr_0_13, xr_0_14, xr_8_11, xr_8_12, xr_8_13, xr_8_14, xr_h, xr_e, xr_u, xr_m, xr_2, xr_9, A1, xw_4, xw_5, xw_6, xw_7, xw_13, xw_14, xw_3, xm_3, xw_10, xw_11, xw_12, xw_15, xw_16, xw_17, xw_18, xw_19, xw_0_8, xw_0_9, xw_0_10, xw_0_11, xw_0_12, xw_0_13, xw_0_14, xw_8_11, xw_8_12, xw_8_13, xw_8_14, xw_h, xw_e, at0, sl, o, en, ea]
theorem x_tickL {N : j_M} {t : Nat} (ht : t ≠ 0) : ∀ (m n c : Nat) (S : a_S), INV S z0 → c + m = S 1 0 → (∀ d, c ≤ d → d < S 1 0 → S 316 (6 * d + d) < S 1 5) → S 6961 0 + m < 2147482000 → xX1_tickOnce_30 t (n + m + 1) (nI c) (XS N t S) = some (XS N t (a_tickL m c S))
  | 0, n, c, S, hi, hm, hs, h9 => by
    have hn := g_n hi.1
    rw [show n + 0 + 1 = n + 1 from rfl, xX1_tickOnce_30.eq_2]
    simp (disch := omega) only [e_gd, e_ix, e_oli2, e_oml2, e_obi2, e_obv2, e_add, e_mul, e_sub, e_eq, e_lt, e_le, e_eq0, e_0eq, e_lt0, e_0lt, e_le0, e_0le, e_m1, e_m1', e_m1lt, Nat.add_assoc, Nat.not_lt_zero, Nat.le_zero_eq, Nat.reduceAdd, xr_4, xr_5, xr_6, xr_7, xr_13, xr_14, xr_3, xr_10, xr_11, xr_12, xr_15, xr_16, xr_17, xr_18, xr_19, xr_0_8, xr_0_9, xr_0_10, xr_0_11, xr_0_12, xr_0_13, xr_0_14, xr_8_11, xr_8_12, xr_8_13, xr_8_14, xr_h, xr_e, xr_u, xr_m, xr_2, xr_9, if_pos]
    rfl
  | m + 1, n, c, S, hi, hm, hs, h9 => by
    have hn := g_n hi.1
    have hq := INV_q hi
    have htk := g_tk hi.1
    have hsc := hs c (by omega) (by omega)
    have hms := hi.2.2.2.2.2.2.2.1
    have g := g_mv hi.1 c
    have g5 := g_4 hi.1 526 c (by omega)
    have hpa : S 1 4 ≤ 20 := (hi.1 1 4).1 rfl |>.2.2.2.2.1 rfl
    have hl5 := (hi.2.2.2.2.2.2.2.2.2.1 c (by omega)).1
    have e0 : a_ticksOf S c 1 0 = S 1 0 := st_tof (Or.inl ⟨rfl, by omega⟩)
    have e5 : a_ticksOf S c 1 5 = S 1 5 := st_tof (Or.inl ⟨rfl, by omega⟩)
    have et := t_tof (S := S) (c := c)
    have ih := x_tickL (N := N) ht m n (c + 1) (a_ticksOf S c) (INV_ticksOf hi (by omega) (by omega) hsc) (by rw [e0]; omega) (fun d h1 h2 => by
      rw [tof_316 (by omega), e5]
      rw [e0] at h2
      exact hs d (by omega) h2) (by omega)
    rw [show n + (m + 1) + 1 = (n + m + 1) + 1 by omega, xX1_tickOnce_30.eq_2, tl_s, ← ih]
    simp (disch := omega) only [e_gd, e_ix, e_oli2, e_oml2, e_obi2, e_obv2, e_add, e_mul, e_sub, e_eq, e_lt, e_le, e_eq0, e_0eq, e_lt0, e_0lt, e_le0, e_0le, e_m1, e_m1', e_m1lt, Nat.add_assoc, Nat.not_lt_zero, Nat.le_zero_eq, Nat.reduceAdd, xr_4, xr_5, xr_6, xr_7, xr_13, xr_14, xr_3, xr_10, xr_11, xr_12, xr_15, xr_16, xr_17, xr_18, xr_19, xr_0_8, xr_0_9, xr_0_10, xr_0_11, xr_0_12, xr_0_13, xr_0_14, xr_8_11, xr_8_12, xr_8_13, xr_8_14, xr_h, xr_e, xr_u, xr_m, xr_2, xr_9, x_missOf (show c < 6 by omega)]
    rw [if_neg (by omega), show n + (m + 1) = n + m + 1 from rfl, f_eq0 (msv_lt hi.1)]
    unfold a_ticksOf
    by_cases h0 : S 292 c = 0
    · rw [if_pos ((msv_0 hms (by omega)).2 h0), if_pos (Or.inl h0)]
    · obtain ⟨l, hl⟩ : ∃ l, S 292 c = l + 1 := ⟨S 292 c - 1, by omega⟩
      have sg := s_good (M := XS N t S) (w := S 298 c) (l := l) (g := S 310 c) (v := S 304 c) g.1 (by omega) g.2.1
      have sl := s_line (M := XS N t S) (w := S 298 c) (l := l) (g := S 310 c) (v := S 304 c) g.1 (by omega) g.2.1 g.2.2.1
      rw [← msv_l hl] at sg sl
      rw [if_neg (fun e => h0 ((msv_0 hms (by omega)).1 e)), sg, e_obi2, f_eq0 (by omega)]
      by_cases hg : S 310 c = 1
      · rw [if_neg (by omega), if_pos (Or.inr (Or.inl hg))]
      · rw [if_pos (by omega)]
        simp (disch := omega) only [e_gd, e_ix, e_oli2, e_oml2, e_obi2, e_obv2, e_add, e_mul, e_sub, e_eq, e_lt, e_le, e_eq0, e_0eq, e_lt0, e_0lt, e_le0, e_0le, e_m1, e_m1', e_m1lt, Nat.add_assoc, Nat.not_lt_zero, Nat.le_zero_eq, Nat.reduceAdd, xr_4, xr_5, xr_6, xr_7, xr_13, xr_14, xr_3, xr_10, xr_11, xr_12, xr_15, xr_16, xr_17, xr_18, xr_19, xr_0_8, xr_0_9, xr_0_10, xr_0_11, xr_0_12, xr_0_13, xr_0_14, xr_8_11, xr_8_12, xr_8_13, xr_8_14, xr_h, xr_e, xr_u, xr_m, xr_2, xr_9]
        by_cases hp : S 1 5 - S 532 c < S 1 4
        · rw [if_neg (by omega), if_pos (Or.inr (Or.inr hp))]
        · have hA : ¬ (S 292 c = 0 ∨ S 310 c = 1 ∨ S 1 5 - S 532 c < S 1 4) := by omega
          rw [if_pos (by omega), if_neg hA, hl, Nat.add_sub_cancel]
          unfold xX1_tickOnce_91 xX1_tickOnce_106
          by_cases h3 : S 526 c < 3
          · have e := x_tk1 (N := N) (t := t) (l := l) ht hi (by omega) (by omega) hl (by omega) (xX1_tickOnce_30 t (n + m + 1)) (sw S 526 c (S 526 c + 1)) (by rw [if_pos h3])
            rw [if_neg (by omega), if_pos (Or.inl h3), if_neg (by decide)]
            simp (disch := omega) only [e_gd, e_ix, e_oli2, e_oml2, e_obi2, e_obv2, e_add, e_mul, e_sub, e_eq, e_lt, e_le, e_eq0, e_0eq, e_lt0, e_0lt, e_le0, e_0le, e_m1, e_m1', e_m1lt, Nat.add_assoc, Nat.not_lt_zero, Nat.le_zero_eq, Nat.reduceAdd, xr_4, xr_5, xr_6, xr_7, xr_13, xr_14, xr_3, xr_10, xr_11, xr_12, xr_15, xr_16, xr_17, xr_18, xr_19, xr_0_8, xr_0_9, xr_0_10, xr_0_11, xr_0_12, xr_0_13, xr_0_14, xr_8_11, xr_8_12, xr_8_13, xr_8_14, xr_h, xr_e, xr_u, xr_m, xr_2, xr_9, xw_4, xw_5, xw_6, xw_7, xw_13, xw_14, xw_3, xm_3, xw_10, xw_11, xw_12, xw_15, xw_16, xw_17, xw_18, xw_19, xw_0_8, xw_0_9, xw_0_10, xw_0_11, xw_0_12, xw_0_13, xw_0_14, xw_8_11, xw_8_12, xw_8_13, xw_8_14, xw_h, xw_e]
            rw [if_neg (by decide)]
            exact e
          · rw [if_pos (by omega), if_pos (by decide), if_pos (by decide), sl, e_obi2, x_must hi.1 hi.2.2.2.1 (by omega) (by omega), e_obi2]
            by_cases hw : a_msg4 S c = 0 ∧ a_mrk S c l = 0
            · have hB : ¬ (S 526 c < 3 ∨ ¬ (a_msg4 S c = 0 ∧ a_mrk S c l = 0)) := fun e => e.elim h3 (fun e => e hw)
              rw [if_pos hw, if_pos (by decide), if_neg hB, x_afg ht hi.1 hi.2.1 (by omega) (by omega) (by omega) hl (by omega) (by omega) (by omega), e_obv2, e_add]
            · have e := x_tk1 (N := N) (t := t) (l := l) ht hi (by omega) (by omega) hl (by omega) (xX1_tickOnce_30 t (n + m + 1)) S (by rw [if_neg h3, Nat.add_zero, sw_same rfl])
              rw [if_neg hw, if_neg (by decide), if_pos (Or.inr hw)]
              exact e
theorem x_fill {N : j_M} {t : Nat} (ht : t ≠ 0) : ∀ (m n k : Nat) (S : a_S), k + m = 48 → xJ7_fill_53178_5 48 (t + 4) (n + m + 1) (nI 0) (nI k) (nI 48) (XS N t S) = some (XS N t (a_grp S k))
  | 0, n, k, S, hk => by
    have e : a_grp S k = S := by
      funext r i
      unfold a_grp
      rw [if_neg (by omega)]
    rw [show n + 0 + 1 = n + 1 from rfl, xJ7_fill_53178_5.eq_2, e]
    simp (disch := omega) only [e_gd, e_ix, e_oli2, e_oml2, e_obi2, e_obv2, e_add, e_mul, e_sub, e_eq, e_lt, e_le, e_eq0, e_0eq, e_lt0, e_0lt, e_le0, e_0le, e_m1, e_m1', e_m1lt, Nat.add_assoc, Nat.not_lt_zero, Nat.le_zero_eq, if_pos]
  | m + 1, n, k, S, hk => by
    have ih := x_fill (N := N) ht m n (k + 1) (sw S 6766 k 0) (by omega)
    have e : a_grp (sw S 6766 k 0) (k + 1) = a_grp S k := by
      funext r i
      unfold a_grp sw
      (repeat' split) <;> first | rfl | (exfalso; omega)
    rw [show n + (m + 1) + 1 = (n + m + 1) + 1 by omega, xJ7_fill_53178_5.eq_2]
    simp (disch := omega) only [e_gd, e_ix, e_oli2, e_oml2, e_obi2, e_obv2, e_add, e_mul, e_sub, e_eq, e_lt, e_le, e_eq0, e_0eq, e_lt0, e_0lt, e_le0, e_0le, e_m1, e_m1', e_m1lt, Nat.add_assoc, Nat.not_lt_zero, Nat.le_zero_eq, Nat.reduceAdd, xr_4, xr_5, xr_6, xr_7, xr_13, xr_14, xr_3, xr_10, xr_11, xr_12, xr_15, xr_16, xr_17, xr_18, xr_19, xr_0_8, xr_0_9, xr_0_10, xr_0_11, xr_0_12, xr_0_13, xr_0_14, xr_8_11, xr_8_12, xr_8_13, xr_8_14, xr_h, xr_e, xr_u, xr_m, xr_2, xr_9, xw_4, xw_5, xw_6, xw_7, xw_13, xw_14, xw_3, xm_3, xw_10, xw_11, xw_12, xw_15, xw_16, xw_17, xw_18, xw_19, xw_0_8, xw_0_9, xw_0_10, xw_0_11, xw_0_12, xw_0_13, xw_0_14, xw_8_11, xw_8_12, xw_8_13, xw_8_14, xw_h, xw_e]
    rw [if_neg (by omega), show n + (m + 1) = n + m + 1 from rfl, ih, e]
theorem x_tick {N : j_M} {t : Nat} {S : a_S} (ht : t ≠ 0) (hi : INV S z0) (h5 : S 1 5 < 10100) (h9 : S 6961 0 < 2147481000) : xX1_tickOnce t (XS N t S) = some (XS N t (a_tick S)) := by
  have hn := g_n hi.1
  have i0 := INV_t0 hi h5
  have e := x_tickL (N := N) (t := t) ht (S 1 0) (1000000 - (S 1 0 + 1)) 0 (a_tick0 S) i0 (by rw [t0_o (by omega)]; omega) (fun d _ h2 => by
    rw [t0_o (by omega)] at h2
    have := (hi.2.2.2.2.2.2.2.2.2.1 d (by omega)).2.2
    rw [t0_o (by omega), t0_5]
    omega) (by rw [t0_o (by omega)]; omega)
  rw [Nat.add_assoc, ← fu_s (S 1 0 + 1) (by omega)] at e
  have e28 : xX1_tickOnce_28 t (XS N t (a_tick0 S)) = some (XS N t (a_tick S)) := e
  have s5 : sw S 1 5 (S 1 5 + 1) 1 5 = S 1 5 + 1 := sw_at
  unfold xX1_tickOnce
  simp (disch := omega) only [e_gd, e_ix, e_oli2, e_oml2, e_obi2, e_obv2, e_add, e_mul, e_sub, e_eq, e_lt, e_le, e_eq0, e_0eq, e_lt0, e_0lt, e_le0, e_0le, e_m1, e_m1', e_m1lt, Nat.add_assoc, Nat.not_lt_zero, Nat.le_zero_eq, Nat.reduceAdd, xr_4, xr_5, xr_6, xr_7, xr_13, xr_14, xr_3, xr_10, xr_11, xr_12, xr_15, xr_16, xr_17, xr_18, xr_19, xr_0_8, xr_0_9, xr_0_10, xr_0_11, xr_0_12, xr_0_13, xr_0_14, xr_8_11, xr_8_12, xr_8_13, xr_8_14, xr_h, xr_e, xr_u, xr_m, xr_2, xr_9, xw_4, xw_5, xw_6, xw_7, xw_13, xw_14, xw_3, xm_3, xw_10, xw_11, xw_12, xw_15, xw_16, xw_17, xw_18, xw_19, xw_0_8, xw_0_9, xw_0_10, xw_0_11, xw_0_12, xw_0_13, xw_0_14, xw_8_11, xw_8_12, xw_8_13, xw_8_14, xw_h, xw_e, s5, e_gn, e_rem]
  unfold a_tick0 at e28
  by_cases h16 : (S 1 5 + 1) % 16 = 0
  · rw [if_pos h16] at e28
    have ef := x_fill (N := N) (t := t) ht 48 (1000000 - 49) 0 (sw S 1 5 (S 1 5 + 1)) (by omega)
    rw [Nat.add_assoc, ← fu_s (48 + 1) (by omega)] at ef
    unfold xJ7_fill_53178
    rw [if_pos h16, show Int32.ofNat 48 = nI 48 from rfl, ef, e_obv2, e28]
  · rw [if_neg h16] at e28
    rw [if_neg h16, e28]
