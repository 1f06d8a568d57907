/-! ===== the class: asking ===== -/
def oth (n c : Nat) : Nat := (2 ^ n - 1) - (if c < n then 2 ^ c else 0)
theorem w_oth : ∀ n, n < 7 → ∀ c, c < 6 → (((nI 1) <<< (nI n &&& 31)) - (nI 1)) &&& (((nI 1) <<< (nI c &&& 31)) ^^^ (-1 : Int32)) = nI (oth n c) := by decide +kernel
theorem w_oth64 : ∀ n, n < 7 → ∀ c, c < 6 → oth n c < 64 := by decide +kernel
theorem w_bit : ∀ n, n < 7 → ∀ c, c < 6 → ∀ j, j < 6 → (oth n c).testBit j = decide (j < n ∧ j ≠ c) := by decide +kernel
theorem w_64 : ∀ j, j < 6 → (64 : Nat).testBit j = false := by decide +kernel
theorem n_tb (x j : Nat) : (x / 2 ^ j % 2 = 1) = (x.testBit j = true) := by
  rw [Nat.testBit_eq_decide_div_mod_eq]
  simp
/-- whom to ask -/
def a_wh (S : a_S) (c l : Nat) : Nat :=
  if S 1 3 = 1 then (if S 538 (8 * c + l) = 0 then 0 else 2 ^ (S 538 (8 * c + l) - 1))
  else if S 1 3 = 2 ∧ S 526 c = 1 then 0
  else if S 1 3 = 3 ∧ S 526 c = 1 then S 6766 (8 * c + l)
  else oth (S 1 0) c
theorem x_whom {N : j_M} {t c l : Nat} {S : a_S} (h : RG S) (hc : c < 6) (hl : l < 8) : xX1_whomToAsk t (nI c) (nI l) (XS N t S) = some (nI ((a_wh S c l &&& oth (S 1 0) c) ||| 64), XS N t S) := by
  have hn := g_n h
  have hp : S 1 3 ≤ 3 := (h 1 3).1 rfl |>.2.2.2.1 rfl
  have hh : S 538 (8 * c + l) ≤ 6 := (h 538 (8 * c + l)).2.2.2.2.2.2.2.2.1 rfl
  have g5 := g_4 h 526 c (by omega)
  have wo := w_oth (S 1 0) (by omega) c hc
  unfold xX1_whomToAsk xX1_whomToAsk_82 xX1_whomToAsk_53 xX1_whomToAsk_113 a_wh
  simp (disch := omega) only [e_gd, e_ix, e_oli2, e_oml2, e_obi2, e_obv2, e_add, e_mul, e_sub, e_eq, e_lt, e_le, e_eq0, e_0eq, e_lt0, e_0lt, e_le0, e_0le, e_m1, e_m1', e_m1lt, Nat.add_assoc, Nat.not_lt_zero, Nat.le_zero_eq, Nat.reduceAdd, xr_4, xr_5, xr_6, xr_7, xr_13, xr_14, xr_3, xr_10, xr_11, xr_12, xr_15, xr_16, xr_17, xr_18, xr_19, xr_0_8, xr_0_9, xr_0_10, xr_0_11, xr_0_12, xr_0_13, xr_0_14, xr_8_11, xr_8_12, xr_8_13, xr_8_14, xr_h, xr_e, xr_u, xr_m, xr_2, xr_9, Nat.mul_comm c 8, wo]
  by_cases p1 : S 1 3 = 1
  · rw [if_pos p1, if_pos p1, f_om1 (by omega)]
    by_cases h0 : S 538 (8 * c + l) = 0
    · rw [if_pos h0, if_pos h0, e_and, e_or]
    · obtain ⟨u, hu⟩ : ∃ u, S 538 (8 * c + l) = u + 1 := ⟨S 538 (8 * c + l) - 1, by omega⟩
      rw [if_neg h0, if_neg h0, hu, oI_s, Nat.add_sub_cancel, e_bit (by omega), e_and, e_or]
  · rw [if_neg p1, if_neg p1]
    by_cases p2 : S 1 3 = 2
    · rw [if_pos p2]
      by_cases i1 : S 526 c = 1
      · rw [if_pos i1, if_pos ⟨p2, i1⟩, e_and, e_or]
      · have q3 : ¬ (S 1 3 = 3 ∧ S 526 c = 1) := fun e => i1 e.2
        have p3 : ¬ S 1 3 = 3 := by omega
        have q2 : ¬ (S 1 3 = 2 ∧ S 526 c = 1) := fun e => i1 e.2
        rw [if_neg i1, if_neg q2, if_neg q3, if_neg p3, e_and, e_or]
    · have q2 : ¬ (S 1 3 = 2 ∧ S 526 c = 1) := fun e => p2 e.1
      rw [if_neg p2, if_neg q2]
      by_cases p3 : S 1 3 = 3
      · rw [if_pos p3]
        by_cases i1 : S 526 c = 1
        · rw [if_pos i1, if_pos ⟨p3, i1⟩, e_and, e_or]
        · rw [if_neg i1, if_neg (fun e => i1 e.2), e_and, e_or]
      · rw [if_neg p3, if_neg (fun e => p3 e.1), e_and, e_or]
theorem wh_bit {S : a_S} {c l j : Nat} (h : RG S) (hg : HG S) (hc : c < 6) (hl : l < 8) (hj : j < 6) (hi1 : 1 ≤ S 526 c ∨ S 1 3 < 2) : (((a_wh S c l &&& oth (S 1 0) c) ||| 64) / 2 ^ j % 2 = 1) ↔ a_tg S c l j = 1 := by
  have hn := g_n h
  have hp : S 1 3 ≤ 3 := (h 1 3).1 rfl |>.2.2.2.1 rfl
  have hh : S 538 (8 * c + l) ≤ 6 := (h 538 (8 * c + l)).2.2.2.2.2.2.2.2.1 rfl
  have hg1 := hg c l hc hl
  rw [n_tb, Nat.testBit_or, w_64 j hj, Nat.testBit_and, w_bit _ (by omega) _ hc _ hj, Bool.or_false, Bool.and_eq_true, decide_eq_true_eq]
  unfold a_tg a_wh
  by_cases hN : S 1 0 ≤ j
  · rw [if_pos hN]
    constructor
    · intro e; omega
    · intro e; omega
  · rw [if_neg hN]
    by_cases p1 : S 1 3 = 1
    · have q : ¬ (S 1 3 = 0 ∨ (2 ≤ S 1 3 ∧ 1 < S 526 c)) := by omega
      rw [if_pos p1, if_neg q, if_pos p1]
      by_cases h0 : S 538 (8 * c + l) = 0
      · rw [if_pos h0, if_neg (by omega), Nat.zero_testBit]
        constructor
        · intro e; exact absurd e.1 (by decide)
        · intro e; omega
      · rw [if_neg h0, Nat.testBit_two_pow, decide_eq_true_eq]
        by_cases e1 : S 538 (8 * c + l) = j + 1
        · rw [if_pos e1]
          constructor
          · intro _; rfl
          · intro _; omega
        · rw [if_neg e1]
          constructor
          · intro e; omega
          · intro e; omega
    · rw [if_neg p1]
      by_cases p0 : S 1 3 = 0
      · have q2 : ¬ (S 1 3 = 2 ∧ S 526 c = 1) := by omega
        have q3 : ¬ (S 1 3 = 3 ∧ S 526 c = 1) := by omega
        rw [if_neg q2, if_neg q3, if_pos (Or.inl p0), w_bit _ (by omega) _ hc _ hj, decide_eq_true_eq]
        by_cases e1 : j = c
        · rw [if_pos e1]
          constructor <;> intro e <;> omega
        · rw [if_neg e1]
          constructor <;> intro e <;> omega
      · by_cases i1 : 1 < S 526 c
        · have q2 : ¬ (S 1 3 = 2 ∧ S 526 c = 1) := by omega
          have q3 : ¬ (S 1 3 = 3 ∧ S 526 c = 1) := by omega
          have q : S 1 3 = 0 ∨ (2 ≤ S 1 3 ∧ 1 < S 526 c) := by omega
          rw [if_neg q2, if_neg q3, if_pos q, w_bit _ (by omega) _ hc _ hj, decide_eq_true_eq]
          by_cases e1 : j = c
          · rw [if_pos e1]
            constructor <;> intro e <;> omega
          · rw [if_neg e1]
            constructor <;> intro e <;> omega
        · have q : ¬ (S 1 3 = 0 ∨ (2 ≤ S 1 3 ∧ 1 < S 526 c)) := by omega
          rw [if_neg q, if_neg p1]
          by_cases p2 : S 1 3 = 2
          · have q2 : S 1 3 = 2 ∧ S 526 c = 1 := by omega
            have q3 : ¬ S 1 3 = 3 := by omega
            rw [if_pos q2, if_neg q3, Nat.zero_testBit]
            constructor
            · intro e; exact absurd e.1 (by decide)
            · intro e; omega
          · have q2 : ¬ (S 1 3 = 2 ∧ S 526 c = 1) := by omega
            have q3 : S 1 3 = 3 ∧ S 526 c = 1 := by omega
            rw [if_neg q2, if_pos q3, if_pos q3.1, ← n_tb]
            constructor
            · intro e; exact e.1
            · intro e
              refine ⟨e, by omega, ?_⟩
              intro e1
              subst e1
              omega
theorem x_asking_l {N : j_M} {t : Nat} {S : a_S} (h : RG S) (hv : VM S) : ∀ (m n k s : Nat), k + m = S 1 7 → xX1_askingOnWay_4 t (n + m + 1) (nI s) (nI k) (XS N t S) = some (nI (s + cn (fun i => S 586 (9 * i + 2) ≤ 2) m k), XS N t S)
  | 0, n, k, s, hk => by
    have hq : S 1 7 ≤ 240 := (h 1 7).1 rfl |>.2.2.2.2.2.2 rfl
    rw [show n + 0 + 1 = n + 1 from rfl, xX1_askingOnWay_4.eq_2]
    simp (disch := omega) only [e_gd, e_ix, e_oli2, e_oml2, e_obi2, e_obv2, e_add, e_mul, e_sub, e_eq, e_lt, e_le, e_eq0, e_0eq, e_lt0, e_0lt, e_le0, e_0le, e_m1, e_m1', e_m1lt, Nat.add_assoc, Nat.not_lt_zero, Nat.le_zero_eq, Nat.reduceAdd, xr_4, xr_5, xr_6, xr_7, xr_13, xr_14, xr_3, xr_10, xr_11, xr_12, xr_15, xr_16, xr_17, xr_18, xr_19, xr_0_8, xr_0_9, xr_0_10, xr_0_11, xr_0_12, xr_0_13, xr_0_14, xr_8_11, xr_8_12, xr_8_13, xr_8_14, xr_h, xr_e, xr_u, xr_m, xr_2, xr_9, if_pos]
    rfl
  | m + 1, n, k, s, hk => by
    have hq : S 1 7 ≤ 240 := (h 1 7).1 rfl |>.2.2.2.2.2.2 rfl
    have g := g_f h k
    have v := hv k (by omega)
    have f0 : fd S k 0 = S 586 (9 * k) := rfl
    have f1 : fd S k 1 = S 586 (9 * k + 1) := rfl
    have f2 : fd S k 2 = S 586 (9 * k + 2) := rfl
    have f3 : fd S k 3 = S 586 (9 * k + 3) := rfl
    have f4 : fd S k 4 = S 586 (9 * k + 4) := rfl
    have f5 : fd S k 5 = S 586 (9 * k + 5) := rfl
    have f6 : fd S k 6 = S 586 (9 * k + 6) := rfl
    have f7 : fd S k 7 = S 586 (9 * k + 7) := rfl
    have f8 : fd S k 8 = S 586 (9 * k + 8) := rfl
    have hcb : cgv (fd S k) < 524288 := by unfold cgv; omega
    rw [show n + (m + 1) + 1 = (n + m + 1) + 1 by omega, xX1_askingOnWay_4.eq_2]
    simp (disch := omega) only [e_gd, e_ix, e_oli2, e_oml2, e_obi2, e_obv2, e_add, e_mul, e_sub, e_eq, e_lt, e_le, e_eq0, e_0eq, e_lt0, e_0lt, e_le0, e_0le, e_m1, e_m1', e_m1lt, Nat.add_assoc, Nat.not_lt_zero, Nat.le_zero_eq, Nat.reduceAdd, xr_4, xr_5, xr_6, xr_7, xr_13, xr_14, xr_3, xr_10, xr_11, xr_12, xr_15, xr_16, xr_17, xr_18, xr_19, xr_0_8, xr_0_9, xr_0_10, xr_0_11, xr_0_12, xr_0_13, xr_0_14, xr_8_11, xr_8_12, xr_8_13, xr_8_14, xr_h, xr_e, xr_u, xr_m, xr_2, xr_9, lc_fd v, l_kind]
    rw [if_neg (by omega), show n + (m + 1) = n + m + 1 from rfl, x_asking_l h hv m n (k + 1) s (by omega), x_asking_l h hv m n (k + 1) (s + 1) (by omega), cn_s, f2]
    by_cases h1 : S 586 (9 * k + 2) ≤ 2
    · rw [if_neg (by omega), if_pos h1, Nat.add_assoc]
    · rw [if_pos (by omega), if_neg h1, Nat.zero_add]
theorem x_asking {N : j_M} {t : Nat} {S : a_S} (h : RG S) (hv : VM S) : xX1_askingOnWay t (XS N t S) = some (nI (a_asking S), XS N t S) := by
  have hq : S 1 7 ≤ 240 := (h 1 7).1 rfl |>.2.2.2.2.2.2 rfl
  have e := x_asking_l (N := N) (t := t) h hv (S 1 7) (1000000 - (S 1 7 + 1)) 0 0 (by omega)
  rw [Nat.add_assoc, ← fu_s (S 1 7 + 1) (by omega), Nat.zero_add] at e
  exact e
theorem one_ask {S : a_S} {c t : Nat} (h : a_asking S ≤ 60) : a_asking (a_one S c t) = if a_asking S = 60 then 60 else a_asking S + 1 := by
  unfold a_one
  split
  · rename_i h6
    rw [mq_ask, mq_c (S := S) (fun i => sw_r (by omega)) (sw_i (by omega)), ← mq_ask, h6]
  · rw [mq_ask, mq_send gp_a, ← mq_ask]
    congr 1
    exact if_pos (show (if S 298 c = 1 then 1 else 2) ≤ 2 by split <;> omega)
theorem x_ask_l {N : j_M} {t c l A kd : Nat} {B : Nat → Nat} (ht : t ≠ 0) (hc : c < 6) (hl : l < 8) (hA : A < 128) (hB : ∀ j, j < 7 → ((A / 2 ^ j % 2 = 1) ↔ B j = 1)) : ∀ (m n to as : Nat) (S : a_S), to + m = 7 → a_asking S = as → as ≤ 60 → S 1 7 + m ≤ 240 → S 292 c = l + 1 → kd = (if S 298 c = 1 then 1 else 2) → xX1_ask_43 t (n + m + 1) (nI c) (nI l) (nI kd) (nI A) (nI as) (nI to) (XS N t S) = some (XS N t (a_askT B c m to S))
  | 0, n, to, as, S, ho, ha, ha6, hq, hm, hk => by
    rw [show n + 0 + 1 = n + 1 from rfl, xX1_ask_43.eq_2]
    simp (disch := omega) only [e_gd, e_ix, e_oli2, e_oml2, e_obi2, e_obv2, e_add, e_mul, e_sub, e_eq, e_lt, e_le, e_eq0, e_0eq, e_lt0, e_0lt, e_le0, e_0le, e_m1, e_m1', e_m1lt, Nat.add_assoc, Nat.not_lt_zero, Nat.le_zero_eq, if_pos]
    rfl
  | m + 1, n, to, as, S, ho, ha, ha6, hq, hm, hk => by
    have hk2 : kd = 1 ∨ kd = 2 := by rw [hk]; split <;> omega
    have hb := hB to (by omega)
    have hlt : A / 2 ^ to % 2 < 2 := Nat.mod_lt _ (by omega)
    have o1 := one_ask (S := S) (c := c) (t := to) (by omega)
    rw [show n + (m + 1) + 1 = (n + m + 1) + 1 by omega, xX1_ask_43.eq_2, ak_s]
    simp (disch := omega) only [e_gd, e_ix, e_oli2, e_oml2, e_obi2, e_obv2, e_add, e_mul, e_sub, e_eq, e_lt, e_le, e_eq0, e_0eq, e_lt0, e_0lt, e_le0, e_0le, e_m1, e_m1', e_m1lt, Nat.add_assoc, Nat.not_lt_zero, Nat.le_zero_eq, e_us, e_and, n_b1]
    rw [if_neg (by omega), show n + (m + 1) = n + m + 1 from rfl]
    by_cases b1 : A / 2 ^ to % 2 = 1
    · rw [if_neg (by omega), if_pos (hb.1 b1)]
      by_cases h60 : as = 60
      · have e1 : a_one S c to = sw S 1 8 (S 1 8 + 1) := by unfold a_one; rw [if_pos (by omega)]
        have c60 : 60 ≤ as := by omega
        rw [if_pos c60]
        rw [e1] at o1 ⊢
        simp (disch := omega) only [e_gd, e_ix, e_oli2, e_oml2, e_obi2, e_obv2, e_add, e_mul, e_sub, e_eq, e_lt, e_le, e_eq0, e_0eq, e_lt0, e_0lt, e_le0, e_0le, e_m1, e_m1', e_m1lt, Nat.add_assoc, Nat.not_lt_zero, Nat.le_zero_eq, Nat.reduceAdd, xr_4, xr_5, xr_6, xr_7, xr_13, xr_14, xr_3, xr_10, xr_11, xr_12, xr_15, xr_16, xr_17, xr_18, xr_19, xr_0_8, xr_0_9, xr_0_10, xr_0_11, xr_0_12, xr_0_13, xr_0_14, xr_8_11, xr_8_12, xr_8_13, xr_8_14, xr_h, xr_e, xr_u, xr_m, xr_2, xr_9, xw_4, xw_5, xw_6, xw_7, xw_13, xw_14, xw_3, xm_3, xw_10, xw_11, xw_12, xw_15, xw_16, xw_17, xw_18, xw_19, xw_0_8, xw_0_9, xw_0_10, xw_0_11, xw_0_12, xw_0_13, xw_0_14, xw_8_11, xw_8_12, xw_8_13, xw_8_14, xw_h, xw_e]
        refine x_ask_l ht hc hl hA hB m n (to + 1) as _ (by omega) (by rw [o1, if_pos (by omega)]; omega) ha6 (by rw [sw_i (by omega)]; omega) (by rw [sw_r (by omega)]; exact hm) (by rw [sw_r (by omega)]; exact hk)
      · have e1 : a_one S c to = a_send S c to kd l 0 0 0 0 0 := by unfold a_one; rw [if_neg (by omega), hm, Nat.add_sub_cancel, ← hk]
        have c60 : ¬ 60 ≤ as := by omega
        rw [if_neg c60]
        rw [e1] at o1 ⊢
        rw [x_post (mn := 0) (ow := 0) (wi := 0) (nt := 0) (wh := 0) ht (by omega) (by omega) (by omega) (by omega) (by omega) hl (by omega) (by omega) (by omega) (by omega) (by omega) (fun _ => ⟨rfl, rfl⟩) (fun _ => ⟨rfl, rfl, rfl⟩) rfl, e_obv2]
        exact x_ask_l ht hc hl hA hB m n (to + 1) (as + 1) _ (by omega) (by rw [o1, if_neg (by omega), ha]) (by omega) (by rw [as_7]; omega) (by rw [as_o (by omega)]; exact hm) (by rw [as_o (by omega)]; exact hk)
    · rw [if_pos (by omega), if_neg (fun e => b1 (hb.2 e))]
      exact x_ask_l ht hc hl hA hB m n (to + 1) as S (by omega) ha ha6 (by omega) hm hk
theorem a_wh64 {S : a_S} {c l : Nat} (h : RG S) (hc : c < 6) : (a_wh S c l &&& oth (S 1 0) c) ||| 64 < 128 := by
  have hn := g_n h
  have h1 : a_wh S c l &&& oth (S 1 0) c < 2 ^ 7 := Nat.lt_of_le_of_lt Nat.and_le_right (by have := w_oth64 (S 1 0) (by omega) c hc; omega)
  exact Nat.or_lt_two_pow (n := 7) h1 (by omega)
theorem x_ask {N : j_M} {t c l : Nat} {S : a_S} (ht : t ≠ 0) (h : RG S) (hv : VM S) (hk : mq S wa ≤ 60) (hg : HG S) (hc : c < 6) (hl : l < 8) (hq : S 1 7 ≤ 232) (hm : S 292 c = l + 1) (hi1 : 1 ≤ S 526 c) : xX1_ask t (nI c) (XS N t S) = some (XS N t (a_asks S c l)) := by
  have g := g_mv h c
  have hn := g_n h
  have e24 : ∀ kd, kd = (if S 298 c = 1 then 1 else 2) → xX1_ask_24 t (nI c) (nI l) (nI kd) (XS N t S) = some (XS N t (a_asks S c l)) := by
    intro kd hkd
    have e := x_ask_l (N := N) (t := t) (l := l) (A := (a_wh S c l &&& oth (S 1 0) c) ||| 64) (kd := kd) (B := fun j => if j = 6 then 1 else a_tg S c l j) ht hc hl (a_wh64 h hc) (fun j hj => by
      by_cases j6 : j = 6
      · subst j6
        have : (((a_wh S c l &&& oth (S 1 0) c) ||| 64) / 2 ^ 6 % 2 = 1) := by
          rw [n_tb, Nat.testBit_or]
          have : (64 : Nat).testBit 6 = true := by decide
          rw [this, Bool.or_true]
        simp only [if_true]
        exact ⟨fun _ => trivial, fun _ => this⟩
      · simp only [j6, if_false]
        exact wh_bit h hg hc hl (by omega) (Or.inl hi1)) 7 (1000000 - 8) 0 (a_asking S) S (by omega) rfl (by rw [mq_ask]; exact hk) (by omega) hm hkd
    rw [Nat.add_assoc, ← fu_s (7 + 1) (by omega)] at e
    unfold xX1_ask_24
    rw [x_whom h hc hl, e_obi2, x_asking h hv, e_obi2, e]
    have fin : a_askT (fun j => if j = 6 then 1 else a_tg S c l j) c 7 0 S = a_asks S c l := by
      rw [show (7 : Nat) = 6 + 1 from rfl, ak_a, ak_s, ak_c (B' := a_tg S c l) 6 0 S (fun j _ h2 => if_neg (by omega))]
      rfl
    rw [fin]
  unfold xX1_ask
  rw [x_missOf hc, e_obi2, msv_l hm, s_line g.1 hl g.2.1 g.2.2.1, e_obi2, s_what g.1, e_obi2, f_eq (by omega) (by omega)]
  by_cases w1 : S 298 c = 1
  · rw [if_pos w1, e24 1 (by rw [if_pos w1])]
  · rw [if_neg w1, e24 2 (by rw [if_neg w1])]
