/-! ===== the class: log, post, the order of use ===== -/
theorem sm9_o {S : a_S} {i f t k l mn ow wi nt wh r j : Nat} (h : r ≠ 586) : sm9 S i f t k l mn ow wi nt wh r j = S r j := by
  unfold sm9
  rw [if_neg (fun e => h e.1)]
theorem x_note {N : j_M} {t w c l tk : Nat} {S : a_S} (ht : t ≠ 0) (hw : w < 8) (hc : c < 8) (hl : l < 8) (hk : tk = S 1 5) (hk2 : S 1 5 ≤ 10100) (h9 : S 6961 0 < 2147483000) : xX5_note (t + 8) (nI tk) (nI w) (nI c) (nI l) (XS N t S) = some (XS N t (a_notes S w c l)) := by
  subst hk
  have e9 := xw_9 (N := N) (t := t) (S := S) (i := S 6961 0 % 100) (a := S 1 5) (b := w) (c := c) (d := l) (v := nI (512 * S 1 5 + (64 * w + (8 * c + l)))) ht (by omega) (by congr 1; omega)
  unfold xX5_note a_notes
  simp (disch := omega) only [e_gd, e_ix, e_oli2, e_oml2, e_obi2, e_obv2, e_add, e_mul, e_sub, e_eq, e_lt, e_le, e_eq0, e_0eq, e_lt0, e_0lt, e_le0, e_0le, e_m1, e_m1', e_m1lt, Nat.add_assoc, Nat.not_lt_zero, Nat.le_zero_eq, Nat.reduceAdd, xr_4, xr_5, xr_6, xr_7, xr_13, xr_14, xr_3, xr_10, xr_11, xr_12, xr_15, xr_16, xr_17, xr_18, xr_19, xr_0_8, xr_0_9, xr_0_10, xr_0_11, xr_0_12, xr_0_13, xr_0_14, xr_8_11, xr_8_12, xr_8_13, xr_8_14, xr_h, xr_e, xr_u, xr_m, xr_2, xr_9, e_gn, e_rem, e_shl, e_or, n_note, e9, sw_r, xw_4, xw_5, xw_6, xw_7, xw_13, xw_14, xw_3, xm_3, xw_10, xw_11, xw_12, xw_15, xw_16, xw_17, xw_18, xw_19, xw_0_8, xw_0_9, xw_0_10, xw_0_11, xw_0_12, xw_0_13, xw_0_14, xw_8_11, xw_8_12, xw_8_13, xw_8_14, xw_h, xw_e]
theorem x_see {N : j_M} {t c v : Nat} {S : a_S} (ht : t ≠ 0) (h : RG S) (hc : c < 6) : xX5_see (t + 8) (nI c) (nI v) (XS N t S) = some (XS N t (a_sees S c v)) := by
  have h1 := g_s h c
  unfold a_sees
  by_cases h2 : S 2746 c = 60
  · unfold xX5_see
    simp (disch := omega) only [e_gd, e_ix, e_oli2, e_oml2, e_obi2, e_obv2, e_add, e_mul, e_sub, e_eq, e_lt, e_le, e_eq0, e_0eq, e_lt0, e_0lt, e_le0, e_0le, e_m1, e_m1', e_m1lt, Nat.add_assoc, Nat.not_lt_zero, Nat.le_zero_eq, Nat.reduceAdd, xr_4, xr_5, xr_6, xr_7, xr_13, xr_14, xr_3, xr_10, xr_11, xr_12, xr_15, xr_16, xr_17, xr_18, xr_19, xr_0_8, xr_0_9, xr_0_10, xr_0_11, xr_0_12, xr_0_13, xr_0_14, xr_8_11, xr_8_12, xr_8_13, xr_8_14, xr_h, xr_e, xr_u, xr_m, xr_2, xr_9, if_pos]
  · rw [if_neg h2]
    unfold xX5_see
    simp (disch := omega) only [e_gd, e_ix, e_oli2, e_oml2, e_obi2, e_obv2, e_add, e_mul, e_sub, e_eq, e_lt, e_le, e_eq0, e_0eq, e_lt0, e_0lt, e_le0, e_0le, e_m1, e_m1', e_m1lt, Nat.add_assoc, Nat.not_lt_zero, Nat.le_zero_eq, Nat.reduceAdd, xr_4, xr_5, xr_6, xr_7, xr_13, xr_14, xr_3, xr_10, xr_11, xr_12, xr_15, xr_16, xr_17, xr_18, xr_19, xr_0_8, xr_0_9, xr_0_10, xr_0_11, xr_0_12, xr_0_13, xr_0_14, xr_8_11, xr_8_12, xr_8_13, xr_8_14, xr_h, xr_e, xr_u, xr_m, xr_2, xr_9, Nat.mul_comm c 60, if_neg, xw_4, xw_5, xw_6, xw_7, xw_13, xw_14, xw_3, xm_3, xw_10, xw_11, xw_12, xw_15, xw_16, xw_17, xw_18, xw_19, xw_0_8, xw_0_9, xw_0_10, xw_0_11, xw_0_12, xw_0_13, xw_0_14, xw_8_11, xw_8_12, xw_8_13, xw_8_14, xw_h, xw_e]
theorem x_countEnd {N : j_M} {t c d : Nat} {S : a_S} (ht : t ≠ 0) (h : RG S) (hc : c < 6) (hd : d ≤ 10100) : xX5_countEnd (t + 8) (nI c) (nI d) (XS N t S) = some (XS N t (sw (sw (sw S 6736 (5 * c + 1) (S 6736 (5 * c + 1) + 1)) 6736 (5 * c + 2) (S 6736 (5 * c + 2) + d)) 6736 (5 * c + 3) (max (S 6736 (5 * c + 3)) d))) := by
  have h1 := g_lg h c
  unfold xX5_countEnd
  simp (disch := omega) only [e_gd, e_ix, e_oli2, e_oml2, e_obi2, e_obv2, e_add, e_mul, e_sub, e_eq, e_lt, e_le, e_eq0, e_0eq, e_lt0, e_0lt, e_le0, e_0le, e_m1, e_m1', e_m1lt, Nat.add_assoc, Nat.not_lt_zero, Nat.le_zero_eq, Nat.reduceAdd, xr_4, xr_5, xr_6, xr_7, xr_13, xr_14, xr_3, xr_10, xr_11, xr_12, xr_15, xr_16, xr_17, xr_18, xr_19, xr_0_8, xr_0_9, xr_0_10, xr_0_11, xr_0_12, xr_0_13, xr_0_14, xr_8_11, xr_8_12, xr_8_13, xr_8_14, xr_h, xr_e, xr_u, xr_m, xr_2, xr_9, xw_4, xw_5, xw_6, xw_7, xw_13, xw_14, xw_3, xm_3, xw_10, xw_11, xw_12, xw_15, xw_16, xw_17, xw_18, xw_19, xw_0_8, xw_0_9, xw_0_10, xw_0_11, xw_0_12, xw_0_13, xw_0_14, xw_8_11, xw_8_12, xw_8_13, xw_8_14, xw_h, xw_e, sw_i]
  by_cases h9 : S 6736 (5 * c + 3) < d
  · rw [if_pos h9]
    simp (disch := omega) only [xw_4, xw_5, xw_6, xw_7, xw_13, xw_14, xw_3, xm_3, xw_10, xw_11, xw_12, xw_15, xw_16, xw_17, xw_18, xw_19, xw_0_8, xw_0_9, xw_0_10, xw_0_11, xw_0_12, xw_0_13, xw_0_14, xw_8_11, xw_8_12, xw_8_13, xw_8_14, xw_h, xw_e]
    rw [Nat.max_eq_right (by omega)]
  · rw [if_neg h9]
    simp (disch := omega) only [xw_4, xw_5, xw_6, xw_7, xw_13, xw_14, xw_3, xm_3, xw_10, xw_11, xw_12, xw_15, xw_16, xw_17, xw_18, xw_19, xw_0_8, xw_0_9, xw_0_10, xw_0_11, xw_0_12, xw_0_13, xw_0_14, xw_8_11, xw_8_12, xw_8_13, xw_8_14, xw_h, xw_e]
    rw [Nat.max_eq_left (by omega)]
theorem x_post {N : j_M} {t f to k l mn ow wi nt wh cgo : Nat} {S : a_S} (ht : t ≠ 0) (hq : S 1 7 < 240) (hf : f < 7) (hto : to < 7) (hk1 : 1 ≤ k) (hk : k < 6) (hl : l < 8) (hm : mn < 16) (ho : ow < 2) (hw : wi ≤ 10000) (hn : nt ≤ 10101) (hh : wh < 4) (h3 : k = 3 → nt = 0 ∧ wh = 0) (h4 : k ≠ 3 → mn = 0 ∧ ow = 0 ∧ wi = 0) (hc : cgo = mn + 16 * ow + 32 * wi + wh + 4 * nt) : xX1_post t (nI f) (nI to) (nI k) (nI l) (nI cgo) (XS N t S) = some (XS N t (a_send S f to k l mn ow wi nt wh)) := by
  have hv : nI (f + (8 * to + (64 * k + (512 * l + 4096 * cgo)))) = nI (lcv (fl9 f to k l mn ow wi nt wh)) := by
    have e : lcv (fl9 f to k l mn ow wi nt wh) = if k = 0 then 0 else f + 8 * to + 64 * k + 512 * l + 4096 * (mn + 16 * ow + 32 * wi + wh + 4 * nt) := rfl
    rw [e, if_neg (by omega), hc]
    congr 1
    omega
  have hcb : cgo ≤ 400000 := by omega
  have e2 := xw_2 (N := N) (t := t) (S := S) (i := S 1 7) ht (by omega) hv
  have fin : ∀ z3 z4, z3 = S 6814 (3 * (f * 7 + to) + 1) + mn → z4 = S 6814 (3 * (f * 7 + to) + 2) + (if wi = 0 then 0 else 1) → sw (sw (sw (sw (sm9 S (S 1 7) f to k l mn ow wi nt wh) 1 7 (S 1 7 + 1)) 6814 (3 * (f * 7 + to)) (S 6814 (3 * (f * 7 + to)) + 1)) 6814 (3 * (f * 7 + to) + 1) z3) 6814 (3 * (f * 7 + to) + 2) z4 = a_send S f to k l mn ow wi nt wh := by
    intro z3 z4 hz3 hz4
    rw [Nat.mul_comm f 7] at hz3 hz4 ⊢
    funext r i
    simp only [sw, sm9, a_send, hz3, hz4]
    by_cases h1 : r = 586
    · subst h1
      simp only [true_and, Nat.reduceEqDiff, false_and, if_false, if_true]
    · by_cases h2 : r = 1
      · subst h2
        simp only [true_and, Nat.reduceEqDiff, false_and, if_false, if_true]
      · by_cases h3 : r = 6814
        · subst h3
          simp only [true_and, Nat.reduceEqDiff, false_and, if_false, if_true]
          (repeat' split) <;> first | rfl | omega | (subst_vars; first | rfl | omega)
        · simp only [h1, h2, h3, false_and, if_false]
  unfold xX1_post
  simp (disch := omega) only [e_gd, e_ix, e_oli2, e_oml2, e_obi2, e_obv2, e_add, e_mul, e_sub, e_eq, e_lt, e_le, e_eq0, e_0eq, e_lt0, e_0lt, e_le0, e_0le, e_m1, e_m1', e_m1lt, Nat.add_assoc, Nat.not_lt_zero, Nat.le_zero_eq, Nat.reduceAdd, xr_4, xr_5, xr_6, xr_7, xr_13, xr_14, xr_3, xr_10, xr_11, xr_12, xr_15, xr_16, xr_17, xr_18, xr_19, xr_0_8, xr_0_9, xr_0_10, xr_0_11, xr_0_12, xr_0_13, xr_0_14, xr_8_11, xr_8_12, xr_8_13, xr_8_14, xr_h, xr_e, xr_u, xr_m, xr_2, xr_9, e_shl, e_or, n_letter, e2, sm9_o, xw_4, xw_5, xw_6, xw_7, xw_13, xw_14, xw_3, xm_3, xw_10, xw_11, xw_12, xw_15, xw_16, xw_17, xw_18, xw_19, xw_0_8, xw_0_9, xw_0_10, xw_0_11, xw_0_12, xw_0_13, xw_0_14, xw_8_11, xw_8_12, xw_8_13, xw_8_14, xw_h, xw_e, sw_r, sw_i]
  rw [if_pos (by omega)]
  by_cases k3 : k = 3
  · have hc2 : cgo % 16 = mn := by have := h3 k3; omega
    have hc3 : cgo / 2 ^ 5 = wi := by have := h3 k3; omega
    rw [if_pos k3]
    simp (disch := omega) only [e_gd, e_ix, e_oli2, e_oml2, e_obi2, e_obv2, e_add, e_mul, e_sub, e_eq, e_lt, e_le, e_eq0, e_0eq, e_lt0, e_0lt, e_le0, e_0le, e_m1, e_m1', e_m1lt, Nat.add_assoc, Nat.not_lt_zero, Nat.le_zero_eq, Nat.reduceAdd, xr_4, xr_5, xr_6, xr_7, xr_13, xr_14, xr_3, xr_10, xr_11, xr_12, xr_15, xr_16, xr_17, xr_18, xr_19, xr_0_8, xr_0_9, xr_0_10, xr_0_11, xr_0_12, xr_0_13, xr_0_14, xr_8_11, xr_8_12, xr_8_13, xr_8_14, xr_h, xr_e, xr_u, xr_m, xr_2, xr_9, e_and, n_m15, hc2, sm9_o, xw_4, xw_5, xw_6, xw_7, xw_13, xw_14, xw_3, xm_3, xw_10, xw_11, xw_12, xw_15, xw_16, xw_17, xw_18, xw_19, xw_0_8, xw_0_9, xw_0_10, xw_0_11, xw_0_12, xw_0_13, xw_0_14, xw_8_11, xw_8_12, xw_8_13, xw_8_14, xw_h, xw_e, sw_r, sw_i, e_us, hc3]
    by_cases hw0 : wi = 0
    · rw [if_pos hw0, ← fin _ _ rfl rfl, if_pos hw0]
      congr 2
      exact (sw_same (by simp (disch := omega) only [sw_r, sw_i, sm9_o, Nat.add_zero])).symm
    · rw [if_neg hw0, ← fin _ _ rfl rfl, if_neg hw0]
  · have h9 := h4 k3
    rw [if_neg k3, ← fin _ _ rfl rfl, if_pos h9.2.2, h9.1]
    congr 2
    rw [sw_same (i := 3 * (f * 7 + to) + 2) (by simp (disch := omega) only [sw_r, sw_i, sm9_o, Nat.add_zero]), sw_same (i := 3 * (f * 7 + to) + 1) (by simp (disch := omega) only [sw_r, sw_i, sm9_o, Nat.add_zero])]
/-- digits of sixteen -/
theorem dg_lt {d : Nat → Nat} (h : ∀ k, d k < 16) : ∀ n, sm (fun k => d k * 16 ^ k) n < 16 ^ n
  | 0 => Nat.zero_lt_one
  | n + 1 => by
    have e := dg_lt h n
    have e2 : d n * 16 ^ n ≤ 15 * 16 ^ n := Nat.mul_le_mul_right _ (by have := h n; omega)
    rw [sm_s, Nat.pow_succ]
    show sm (fun k => d k * 16 ^ k) n + d n * 16 ^ n < _
    omega
theorem dg_nib {d : Nat → Nat} (h : ∀ k, d k < 16) : ∀ n i, i < n → sm (fun k => d k * 16 ^ k) n / 16 ^ i % 16 = d i
  | 0, i, hi => by omega
  | n + 1, i, hi => by
    rw [sm_s]
    show (sm (fun k => d k * 16 ^ k) n + d n * 16 ^ n) / 16 ^ i % 16 = d i
    have hp : 0 < 16 ^ i := Nat.pow_pos (by omega)
    by_cases hin : i = n
    · subst hin
      rw [Nat.add_mul_div_right _ _ hp, Nat.div_eq_of_lt (dg_lt h i), Nat.zero_add, Nat.mod_eq_of_lt (h i)]
    · obtain ⟨q, rfl⟩ : ∃ q, n = i + q + 1 := ⟨n - i - 1, by omega⟩
      have e : d (i + q + 1) * 16 ^ (i + q + 1) = d (i + q + 1) * 16 ^ q * 16 * 16 ^ i := by
        rw [show i + q + 1 = q + 1 + i by omega, Nat.pow_add, Nat.pow_succ, Nat.mul_assoc, Nat.mul_assoc, Nat.mul_assoc]
      rw [e, Nat.add_mul_div_right _ _ hp, Nat.add_mul_mod_self_right]
      exact dg_nib h (i + q + 1) i (by omega)
theorem p16 (j : Nat) : 2 ^ (4 * j) = 16 ^ j := by rw [Nat.pow_mul]
theorem sh_lt {d q : Nat} (hd : d < 16) (hq : q < 8) : d * 2 ^ (4 * q) < 4294967296 := by
  have c : q = 0 ∨ q = 1 ∨ q = 2 ∨ q = 3 ∨ q = 4 ∨ q = 5 ∨ q = 6 ∨ q = 7 := by omega
  rcases c with h | h | h | h | h | h | h | h <;> subst h <;> simp only [Nat.reduceMul, Nat.reducePow] <;> omega
theorem dg_or {d : Nat → Nat} {q x : Nat} (h : ∀ k, d k < 16) : sm (fun k => d k * 16 ^ k) q ||| x * 2 ^ (4 * q) = sm (fun k => d k * 16 ^ k) q + x * 16 ^ q := by
  rw [n_or (4 * q) (by rw [p16]; exact dg_lt h q) (Nat.mul_mod_left _ _), p16]
/-- the loop that takes a line out -/
theorem x_reo {t u at' B l U p : Nat} {d e : Nat → Nat} {M : j_M} (hl : l < 8) (hB : B < 4294967296) (hd : ∀ k, d k < 16) (he : ∀ k, e k < 16) (hn : ∀ k, k < 8 → B / 16 ^ k % 16 = d k) (hU : U ≤ 8) (h0 : ∀ k, k < 8 → (d k = 0 ↔ U ≤ k)) (hp : ∀ k, k < U → (d k = l + 1 ↔ k = p)) (hee : ∀ k, k < 8 → e k = if k < p then d k else d (k + 1)) : ∀ (m n k q : Nat), k + m = 8 → q = (if p < min k U then min k U - 1 else min k U) → xX1_reorder_24 t (n + m + 1) (nI l) (nI u) (nI at') (nI B) (nI (sm (fun j => e j * 16 ^ j) q)) (nI (4 * q)) (nI (4 * k)) M = xX1_reorder_24 t (n + 1) (nI l) (nI u) (nI at') (nI B) (nI (sm (fun j => e j * 16 ^ j) (if p < U then U - 1 else U))) (nI (4 * (if p < U then U - 1 else U))) (nI 32) M
  | 0, n, k, q, hk, hq => by
    have e8 : k = 8 := by omega
    have e9 : q = if p < U then U - 1 else U := by rw [hq, e8, Nat.min_eq_right hU]
    rw [e9, e8]
  | m + 1, n, k, q, hk, hq => by
    have ih := x_reo (t := t) (u := u) (at' := at') (M := M) hl hB hd he hn hU h0 hp hee m n (k + 1)
    have nb := hn k (by omega)
    have dk := hd k
    have d0 := h0 k (by omega)
    rw [show n + (m + 1) + 1 = (n + m + 1) + 1 by omega, xX1_reorder_24.eq_2]
    simp (disch := omega) only [e_gd, e_ix, e_oli2, e_oml2, e_obi2, e_obv2, e_add, e_mul, e_sub, e_eq, e_lt, e_le, e_eq0, e_0eq, e_lt0, e_0lt, e_le0, e_0le, e_m1, e_m1', e_m1lt, Nat.add_assoc, Nat.not_lt_zero, Nat.le_zero_eq, e_us, e_and, n_m15, p16, nb]
    rw [if_neg (by omega), show n + (m + 1) = n + m + 1 from rfl, show 4 * k + 4 = 4 * (k + 1) by omega]
    by_cases c0 : U ≤ k
    · rw [if_pos (d0.2 c0)]
      exact ih q (by omega) (by rw [hq, Nat.min_eq_right c0, Nat.min_eq_right (by omega)])
    · have m1 : min k U = k := Nat.min_eq_left (by omega)
      have m2 : min (k + 1) U = k + 1 := Nat.min_eq_left (by omega)
      have c0' : ¬ d k = 0 := fun h => c0 (d0.1 h)
      rw [if_neg c0']
      rw [m1] at hq
      by_cases cp : k = p
      · rw [if_pos ((hp k (by omega)).2 cp)]
        exact ih q (by omega) (by rw [m2, hq]; (repeat' split) <;> omega)
      · have q8 : q < 8 := by rw [hq]; split <;> omega
        have ek : e q = d k := by
          rw [hee q q8, hq]
          by_cases c1 : p < k
          · rw [if_pos c1, if_neg (by omega), show k - 1 + 1 = k by omega]
          · rw [if_neg c1, if_pos (by omega)]
        rw [if_neg (fun h => cp ((hp k (by omega)).1 h)), e_shl (by omega) (sh_lt dk q8), e_or, dg_or he, ← ek, show 4 * q + 4 = 4 * (q + 1) by omega]
        exact ih (q + 1) (by omega) (by rw [m2, hq]; (repeat' split) <;> omega)
