/-! ===== the class: many deliveries, many ticks ===== -/
theorem x_cD {N : j_M} {t l r : Nat} (ht : t ≠ 0) (K : Int32 → Int32 → Int32 → j_M → Option (Int32 × j_M)) : ∀ (m n q d : Nat) (S : a_S), INV S z0 → q + m = 2000 → S 1 5 < 10100 → S 6961 0 + 2 * m < 2147481000 → xX1_calmRounds_12 K t (n + m + 1) (nI l) (nI d) (nI r) (nI q) (XS N t S) = K (nI l) (nI (d + a_cN m S)) (nI (r + 1)) (XS N t (a_tick (a_cD m S)))
  | 0, n, q, d, S, hi, hq, h5, h9 => by
    rw [show n + 0 + 1 = n + 1 from rfl, xX1_calmRounds_12.eq_2]
    unfold xX1_calmRounds_42
    simp (disch := omega) only [e_gd, e_ix, e_oli2, e_oml2, e_obi2, e_obv2, e_add, e_mul, e_sub, e_eq, e_lt, e_le, e_eq0, e_0eq, e_lt0, e_0lt, e_le0, e_0le, e_m1, e_m1', e_m1lt, Nat.add_assoc, Nat.not_lt_zero, Nat.le_zero_eq, if_pos, x_tick ht hi h5 (show S 6961 0 < 2147481000 by omega)]
    rfl
  | m + 1, n, q, d, S, hi, hq, h5, h9 => by
    have hq7 := INV_q hi
    have e5 : a_del S 0 1 5 = S 1 5 := st_del (Or.inl ⟨rfl, by omega⟩)
    rw [show n + (m + 1) + 1 = (n + m + 1) + 1 by omega, xX1_calmRounds_12.eq_2, cN_s, cD_s]
    by_cases h0 : S 1 7 = 0
    · unfold xX1_calmRounds_42
      rw [if_pos h0, if_pos h0]
      simp (disch := omega) only [e_gd, e_ix, e_oli2, e_oml2, e_obi2, e_obv2, e_add, e_mul, e_sub, e_eq, e_lt, e_le, e_eq0, e_0eq, e_lt0, e_0lt, e_le0, e_0le, e_m1, e_m1', e_m1lt, Nat.add_assoc, Nat.not_lt_zero, Nat.le_zero_eq, Nat.reduceAdd, xr_4, xr_5, xr_6, xr_7, xr_13, xr_14, xr_3, xr_10, xr_11, xr_12, xr_15, xr_16, xr_17, xr_18, xr_19, xr_0_8, xr_0_9, xr_0_10, xr_0_11, xr_0_12, xr_0_13, xr_0_14, xr_8_11, xr_8_12, xr_8_13, xr_8_14, xr_h, xr_e, xr_u, xr_m, xr_2, xr_9, x_tick ht hi h5 (show S 6961 0 < 2147481000 by omega)]
      rw [if_neg (by omega), if_pos h0]
      rfl
    · have ex := x_del (N := N) (i := 0) ht hi (by omega) (by omega)
      have td := t_del (S := S) (i := 0)
      have ey := x_cD (N := N) (l := l) (r := r) ht K m n (q + 1) (d + 1) (a_del S 0) (INV_del hi (by omega)) (by omega) (by omega) (by omega)
      simp (disch := omega) only [e_gd, e_ix, e_oli2, e_oml2, e_obi2, e_obv2, e_add, e_mul, e_sub, e_eq, e_lt, e_le, e_eq0, e_0eq, e_lt0, e_0lt, e_le0, e_0le, e_m1, e_m1', e_m1lt, Nat.add_assoc, Nat.not_lt_zero, Nat.le_zero_eq, Nat.reduceAdd, xr_4, xr_5, xr_6, xr_7, xr_13, xr_14, xr_3, xr_10, xr_11, xr_12, xr_15, xr_16, xr_17, xr_18, xr_19, xr_0_8, xr_0_9, xr_0_10, xr_0_11, xr_0_12, xr_0_13, xr_0_14, xr_8_11, xr_8_12, xr_8_13, xr_8_14, xr_h, xr_e, xr_u, xr_m, xr_2, xr_9, ex]
      rw [if_neg (by omega), if_neg h0, if_neg h0, if_neg h0, show n + (m + 1) = n + m + 1 from rfl, ey, Nat.add_assoc]
theorem x_cR {N : j_M} {t : Nat} (ht : t ≠ 0) : ∀ (m n k d l : Nat) (S : a_S), INV S z0 → k + m = l → l ≤ 60 → S 1 5 + m ≤ 10100 → S 6961 0 + 4006 * m < 2147470000 → xX1_calmRounds_4 t (n + m + 1) (nI l) (nI d) (nI k) (XS N t S) = some (nI (d + a_cK m S), XS N t (a_cR m S))
  | 0, n, k, d, l, S, hi, hk, hl, h5, h9 => by
    rw [show n + 0 + 1 = n + 1 from rfl, xX1_calmRounds_4.eq_2]
    simp (disch := omega) only [e_gd, e_ix, e_oli2, e_oml2, e_obi2, e_obv2, e_add, e_mul, e_sub, e_eq, e_lt, e_le, e_eq0, e_0eq, e_lt0, e_0lt, e_le0, e_0le, e_m1, e_m1', e_m1lt, Nat.add_assoc, Nat.not_lt_zero, Nat.le_zero_eq, if_pos]
    rfl
  | m + 1, n, k, d, l, S, hi, hk, hl, h5, h9 => by
    have hn := g_n hi.1
    have t1 := t_calm1 hn
    have ih := x_cR (N := N) ht m n (k + 1) (d + a_cN 2000 S) l (a_calm1 S) (INV_calm1 hi (by omega)) (by omega) hl (by rw [calm1_5]; omega) (by omega)
    have h99 : S 6961 0 < 2147470000 := by omega
    have h98 : S 1 5 < 10100 := by omega
    have h97 : S 6961 0 + 2 * 2000 < 2147481000 := by clear ih t1 h9; omega
    have e := x_cD (N := N) (l := l) (r := k) ht (xX1_calmRounds_4 t (n + m + 1)) 2000 (1000000 - 2001) 0 d S hi rfl h98 h97
    have ef : 1000000 - 2001 + 2000 + 1 = fu := by unfold fu; omega
    rw [ef] at e
    rw [show n + (m + 1) + 1 = (n + m + 1) + 1 by omega, xX1_calmRounds_4.eq_2, cK_s, cR_s, ← Nat.add_assoc, ← ih, f_le (by omega) (by omega), if_neg (by omega), e]
    rfl
theorem x_calm {N : j_M} {t l : Nat} {S : a_S} (ht : t ≠ 0) (hi : INV S z0) (hl : l ≤ 60) (h5 : S 1 5 + l ≤ 10100) (h9 : S 6961 0 + 4006 * l < 2147470000) : xX1_calmRounds t (nI l) (XS N t S) = some (nI (a_cK l S), XS N t (a_cR l S)) := by
  have e := x_cR (N := N) ht l (1000000 - (l + 1)) 0 0 l S hi (by omega) hl h5 h9
  rw [Nat.add_assoc, ← fu_s (l + 1) (by omega), Nat.zero_add] at e
  exact e
theorem x_tkN_l {N : j_M} {t : Nat} (ht : t ≠ 0) : ∀ (m n k l : Nat) (S : a_S), INV S z0 → k + m = l → l ≤ 99 → S 1 5 + m ≤ 10100 → S 6961 0 + 6 * m < 2147470000 → xX1_ticks_2 t (n + m + 1) (nI l) (nI k) (XS N t S) = some (XS N t (a_tkN m S))
  | 0, n, k, l, S, hi, hk, hl, h5, h9 => by
    rw [show n + 0 + 1 = n + 1 from rfl, xX1_ticks_2.eq_2]
    simp (disch := omega) only [e_gd, e_ix, e_oli2, e_oml2, e_obi2, e_obv2, e_add, e_mul, e_sub, e_eq, e_lt, e_le, e_eq0, e_0eq, e_lt0, e_0lt, e_le0, e_0le, e_m1, e_m1', e_m1lt, Nat.add_assoc, Nat.not_lt_zero, Nat.le_zero_eq, if_pos]
    rfl
  | m + 1, n, k, l, S, hi, hk, hl, h5, h9 => by
    have hn := g_n hi.1
    have t1 := t_tick hn
    have ih := x_tkN_l (N := N) ht m n (k + 1) l (a_tick S) (INV_tick hi (by omega)) (by omega) hl (by rw [tick_5]; omega) (by omega)
    rw [show n + (m + 1) + 1 = (n + m + 1) + 1 by omega, xX1_ticks_2.eq_2]
    simp (disch := omega) only [e_gd, e_ix, e_oli2, e_oml2, e_obi2, e_obv2, e_add, e_mul, e_sub, e_eq, e_lt, e_le, e_eq0, e_0eq, e_lt0, e_0lt, e_le0, e_0le, e_m1, e_m1', e_m1lt, Nat.add_assoc, Nat.not_lt_zero, Nat.le_zero_eq, x_tick ht hi (show S 1 5 < 10100 by omega) (show S 6961 0 < 2147481000 by omega)]
    rw [if_neg (by omega), show n + (m + 1) = n + m + 1 from rfl, ih, tkN_s]
theorem x_tkN {N : j_M} {t l : Nat} {S : a_S} (ht : t ≠ 0) (hi : INV S z0) (hl : l ≤ 99) (h5 : S 1 5 + l ≤ 10100) (h9 : S 6961 0 + 6 * l < 2147470000) : xX1_ticks t (nI l) (XS N t S) = some (XS N t (a_tkN l S)) := by
  have e := x_tkN_l (N := N) ht l (1000000 - (l + 1)) 0 l S hi (by omega) hl h5 h9
  rw [Nat.add_assoc, ← fu_s (l + 1) (by omega)] at e
  exact e
theorem x_ds_l {N : j_M} {t b : Nat} (ht : t ≠ 0) (hb : b < 2) : ∀ (m n k l : Nat) (S : a_S), INV S z0 → k + m = l → l ≤ 50 → S 6961 0 + 2 * m < 2147470000 → ∃ q, xX1_deliverMany_2 t (n + m + 1) (nI l) (nI b) (nI k) (XS N t S) = some (nI q, XS N t (a_ds b m S)) ∧ q ≤ l ∧ (q = 0 ↔ (k = 0 ∧ (m = 0 ∨ S 1 7 = 0)))
  | 0, n, k, l, S, hi, hk, hl, h9 => by
    refine ⟨k, ?_, by omega, by omega⟩
    rw [show n + 0 + 1 = n + 1 from rfl, xX1_deliverMany_2.eq_2]
    simp (disch := omega) only [e_gd, e_ix, e_oli2, e_oml2, e_obi2, e_obv2, e_add, e_mul, e_sub, e_eq, e_lt, e_le, e_eq0, e_0eq, e_lt0, e_0lt, e_le0, e_0le, e_m1, e_m1', e_m1lt, Nat.add_assoc, Nat.not_lt_zero, Nat.le_zero_eq, if_pos]
    rfl
  | m + 1, n, k, l, S, hi, hk, hl, h9 => by
    have hq7 := INV_q hi
    rw [show n + (m + 1) + 1 = (n + m + 1) + 1 by omega, xX1_deliverMany_2.eq_2, ds_s]
    by_cases h0 : S 1 7 = 0
    · refine ⟨k, ?_, by omega, by omega⟩
      rw [if_pos h0]
      simp (disch := omega) only [e_gd, e_ix, e_oli2, e_oml2, e_obi2, e_obv2, e_add, e_mul, e_sub, e_eq, e_lt, e_le, e_eq0, e_0eq, e_lt0, e_0lt, e_le0, e_0le, e_m1, e_m1', e_m1lt, Nat.add_assoc, Nat.not_lt_zero, Nat.le_zero_eq, Nat.reduceAdd, xr_4, xr_5, xr_6, xr_7, xr_13, xr_14, xr_3, xr_10, xr_11, xr_12, xr_15, xr_16, xr_17, xr_18, xr_19, xr_0_8, xr_0_9, xr_0_10, xr_0_11, xr_0_12, xr_0_13, xr_0_14, xr_8_11, xr_8_12, xr_8_13, xr_8_14, xr_h, xr_e, xr_u, xr_m, xr_2, xr_9]
      rw [if_neg (by omega), if_pos h0]
    · have td := t_del (S := S) (i := if b = 0 then 0 else S 1 7 - 1)
      have ex := x_del (N := N) (i := if b = 0 then 0 else S 1 7 - 1) ht hi (by split <;> omega) (by omega)
      obtain ⟨q, ey, hq1, hq2⟩ := x_ds_l (N := N) ht hb m n (k + 1) l (a_del S (if b = 0 then 0 else S 1 7 - 1)) (INV_del hi (by split <;> omega)) (by omega) hl (by omega)
      refine ⟨q, ?_, hq1, by omega⟩
      rw [if_neg h0]
      unfold xX1_deliverMany_29
      simp (disch := omega) only [e_gd, e_ix, e_oli2, e_oml2, e_obi2, e_obv2, e_add, e_mul, e_sub, e_eq, e_lt, e_le, e_eq0, e_0eq, e_lt0, e_0lt, e_le0, e_0le, e_m1, e_m1', e_m1lt, Nat.add_assoc, Nat.not_lt_zero, Nat.le_zero_eq, Nat.reduceAdd, xr_4, xr_5, xr_6, xr_7, xr_13, xr_14, xr_3, xr_10, xr_11, xr_12, xr_15, xr_16, xr_17, xr_18, xr_19, xr_0_8, xr_0_9, xr_0_10, xr_0_11, xr_0_12, xr_0_13, xr_0_14, xr_8_11, xr_8_12, xr_8_13, xr_8_14, xr_h, xr_e, xr_u, xr_m, xr_2, xr_9]
      rw [if_neg (show ¬ l ≤ k by omega), if_neg h0, show n + (m + 1) = n + m + 1 from rfl]
      by_cases hb0 : b = 0
      · rw [if_pos hb0] at ex ey ⊢
        rw [if_pos hb0, ex, e_obi2, ey]
      · rw [if_neg hb0] at ex ey ⊢
        rw [if_neg hb0, ex, e_obi2, ey]
theorem x_ds {N : j_M} {t b l : Nat} {S : a_S} (ht : t ≠ 0) (hb : b < 2) (hi : INV S z0) (hl1 : 1 ≤ l) (hl : l ≤ 50) (h9 : S 6961 0 + 2 * l < 2147470000) : ∃ q, xX1_deliverMany t (nI l) (nI b) (XS N t S) = some (nI q, XS N t (a_ds b l S)) ∧ q ≤ 50 ∧ (q = 0 ↔ S 1 7 = 0) := by
  obtain ⟨q, e, h1, h2⟩ := x_ds_l (N := N) (t := t) ht hb l (1000000 - (l + 1)) 0 l S hi (by omega) hl h9
  rw [Nat.add_assoc, ← fu_s (l + 1) (by omega)] at e
  exact ⟨q, e, by omega, by omega⟩
/-! ===== programs and plan: acts ===== -/
def a_dr (S : a_S) : a_S := sw S 1 6 ((1664525 * S 1 6 + 1013904223) % 4294967296)
def a_acts (S : a_S) (c : Nat) : a_S :=
  if S 3118 c = S 3112 c ∨ S 292 c ≠ 0 ∨ S 1 5 < S 3124 c then S
  else if S 3130 (3 * (200 * c + S 3118 c)) = 3 then sw (sw S 3118 c (S 3118 c + 1)) 3124 c (S 1 5 + S 3130 (3 * (200 * c + S 3118 c) + 1))
  else a_begins (sw S 3118 c (S 3118 c + 1)) c (S 3130 (3 * (200 * c + S 3118 c) + 1)) (S 3130 (3 * (200 * c + S 3118 c)) + 1) (S 3130 (3 * (200 * c + S 3118 c) + 2))
def a_actL : Nat → Nat → a_S → a_S
  | 0, _, S => S
  | m + 1, c, S => a_actL m (c + 1) (a_acts S c)
theorem actL_s {m c : Nat} {S : a_S} : a_actL (m + 1) c S = a_actL m (c + 1) (a_acts S c) := rfl
/-- what programs and plan hold -/
def AOK (g : Nat → Nat) : Prop := g 0 ≤ 3 ∧ g 1 ≤ 9 ∧ (g 0 ≤ 2 → g 1 < 8) ∧ g 2 < 10000
def POK (g : Nat → Nat) : Prop :=
  (g 0 = 3 ∨ g 0 = 4 ∨ g 0 = 5 ∨ (8 ≤ g 0 ∧ g 0 ≤ 14)) ∧ (g 0 ≤ 8 → g 1 < 6 ∧ g 2 < 8 ∧ g 3 < 10000) ∧ ((g 0 = 9 ∨ g 0 = 10) → 1 ≤ g 1 ∧ g 1 ≤ 50) ∧ (g 0 = 11 → 1 ≤ g 1 ∧ g 1 ≤ 99) ∧ ((g 0 = 12 ∨ g 0 = 13) → 1 ≤ g 1 ∧ g 1 ≤ 60) ∧ (g 0 = 13 → g 2 ≤ 2) ∧ (g 0 = 14 → g 1 ≤ 3)
def PR (S : a_S) : Prop := (∀ c, c < 6 → S 3112 c ≤ 200 ∧ S 3118 c ≤ S 3112 c ∧ S 3124 c ≤ 10200) ∧ (∀ c k, c < 6 → k < S 3112 c → AOK (fun j => S 3130 (3 * (200 * c + k) + j))) ∧ S 7362 0 ≤ 24 ∧ S 7363 0 ≤ S 7362 0 ∧ (∀ p, p < S 7362 0 → POK (fun j => S 7364 (4 * p + j)))
theorem PR_c {S S' : a_S} (h : PR S) (h1 : ∀ r i, (3112 ≤ r ∧ r < 6730) ∨ 7362 ≤ r → S' r i = S r i) : PR S' := by
  unfold PR at h ⊢
  simp only [fun i => h1 3112 i (by omega), fun i => h1 3118 i (by omega), fun i => h1 3124 i (by omega), fun i => h1 3130 i (by omega), fun i => h1 7362 i (by omega), fun i => h1 7363 i (by omega), fun i => h1 7364 i (by omega)]
  exact h
theorem INV_scr {S S' : a_S} {h : Nat → Nat} (hi : INV S h) (hd : ∀ r i, r ≠ 3118 → r ≠ 3124 → r ≠ 7363 → ¬ (r = 1 ∧ i = 6) → S' r i = S r i) : INV S' h := by
  refine INV_log hi (fun r i => ?_) (fun r i hr => hd r i (by omega) (by omega) (by omega) (by omega)) (fun i _ h6 _ => hd 1 i (by omega) (by omega) (by omega) (by omega))
  by_cases c : r = 3118 ∨ r = 3124 ∨ r = 7363 ∨ (r = 1 ∧ i = 6)
  · unfold rg
    omega
  · rw [hd r i (by omega) (by omega) (by omega) (by omega)]
    exact hi.1 r i
theorem PR_acts {S : a_S} {c : Nat} (h : PR S) (hc : c < 6) (h5 : S 1 5 ≤ 10100) : PR (a_acts S c) := by
  have hc1 := h.1 c hc
  unfold a_acts
  split
  · exact h
  · rename_i h0
    have ha := h.2.1 c (S 3118 c) hc (by omega)
    unfold AOK at ha
    simp only at ha
    have e1 : PR (sw S 3118 c (S 3118 c + 1)) := by
      obtain ⟨p1, p2, p3, p4, p5⟩ := h
      refine ⟨fun d hd => ?_, fun d k hd hk => ?_, ?_, ?_, fun p hp => ?_⟩
      · have := p1 d hd
        rw [sw_r (r := 3118) (x := 3112) (by omega), sw_r (r := 3118) (x := 3124) (by omega)]
        by_cases hdc : d = c
        · subst hdc
          rw [sw_at]
          omega
        · rw [sw_i hdc]
          exact this
      · rw [sw_r (by omega)] at hk
        have := p2 d k hd hk
        simp (disch := omega) only [sw_r]
        exact this
      · rw [sw_r (by omega)]; exact p3
      · rw [sw_r (by omega), sw_r (by omega)]; exact p4
      · rw [sw_r (by omega)] at hp
        have := p5 p hp
        simp (disch := omega) only [sw_r]
        exact this
    split
    · obtain ⟨p1, p2, p3, p4, p5⟩ := e1
      refine ⟨fun d hd => ?_, fun d k hd hk => ?_, ?_, ?_, fun p hp => ?_⟩
      · have := p1 d hd
        rw [sw_r (r := 3124) (x := 3112) (by omega), sw_r (r := 3124) (x := 3118) (by omega)]
        by_cases hdc : d = c
        · subst hdc
          rw [sw_at (r := 3124)]
          refine ⟨this.1, this.2.1, by omega⟩
        · rw [sw_i (r := 3124) hdc]
          exact this
      · rw [sw_r (r := 3124) (by omega)] at hk
        have := p2 d k hd hk
        simp (disch := omega) only [sw_r] at this ⊢
        exact this
      · rw [sw_r (r := 3124) (by omega)]; exact p3
      · rw [sw_r (r := 3124) (by omega), sw_r (r := 3124) (by omega)]; exact p4
      · rw [sw_r (r := 3124) (by omega)] at hp
        have := p5 p hp
        simp (disch := omega) only [sw_r] at this ⊢
        exact this
    · exact PR_c e1 (fun r i hr => st_begins (by unfold stt; omega))
theorem INV_acts {S : a_S} {c : Nat} (hi : INV S z0) (h : PR S) (hc : c < S 1 0) : INV (a_acts S c) z0 := by
  have hn := g_n hi.1
  have hc1 := h.1 c (by omega)
  unfold a_acts
  split
  · exact hi
  · rename_i h0
    have ha := h.2.1 c (S 3118 c) (by omega) (by omega)
    unfold AOK at ha
    simp only [Nat.add_zero] at ha
    split
    · exact INV_scr hi (fun r i a b _ _ => by rw [sw_r b, sw_r a])
    · exact INV_begins (INV_scr hi (fun r i a b _ _ => by rw [sw_r a])) (by omega) (by omega) (by omega) (by omega) (by omega) (by rw [sw_r (by omega)]; exact hc)
theorem st_acts {S : a_S} {c r j : Nat} (h : stt r j) (h2 : r ≠ 3118 ∧ r ≠ 3124) : a_acts S c r j = S r j := by
  unfold a_acts
  split
  · rfl
  · split
    · rw [sw_r h2.2, sw_r h2.1]
    · rw [st_begins h, sw_r h2.1]
theorem t_acts {S : a_S} {c : Nat} : a_acts S c 6961 0 ≤ S 6961 0 + 1 := by
  unfold a_acts
  split
  · omega
  · split
    · rw [sw_r (by omega), sw_r (by omega)]; omega
    · rw [t_begins, sw_r (by omega)]; exact Nat.le_refl _
