/-! ===== tokens ===== -/
abbrev isL (c : Nat) : Prop := (97 ≤ c ∧ c ≤ 122) ∨ (65 ≤ c ∧ c ≤ 90)
abbrev isD (c : Nat) : Prop := 48 ≤ c ∧ c ≤ 57
abbrev isS (c : Nat) : Prop := c = 32 ∨ c = 10
def run (P : Nat → Prop) [DecidablePred P] (T : Nat → Nat) : Nat → Nat → Nat
  | 0, p => p
  | m + 1, p => if P (T p) then run P T m (p + 1) else p
theorem run_ge {P : Nat → Prop} [DecidablePred P] {T : Nat → Nat} : ∀ (m p : Nat), p ≤ run P T m p ∧ run P T m p ≤ p + m
  | 0, p => by unfold run; omega
  | m + 1, p => by
    unfold run
    by_cases h : P (T p)
    · rw [if_pos h]
      have := run_ge (P := P) (T := T) m (p + 1)
      omega
    · rw [if_neg h]
      omega
theorem run_in {P : Nat → Prop} [DecidablePred P] {T : Nat → Nat} : ∀ (m p i : Nat), p ≤ i → i < run P T m p → P (T i)
  | 0, p, i, h1, h2 => by unfold run at h2; omega
  | m + 1, p, i, h1, h2 => by
    unfold run at h2
    by_cases h : P (T p)
    · rw [if_pos h] at h2
      by_cases e : i = p
      · rw [e]; exact h
      · exact run_in m (p + 1) i (by omega) h2
    · rw [if_neg h] at h2
      omega
theorem run_end {P : Nat → Prop} [DecidablePred P] {T : Nat → Nat} : ∀ (m p : Nat), run P T m p < p + m → ¬ P (T (run P T m p))
  | 0, p, h => by unfold run at h; omega
  | m + 1, p, h => by
    unfold run at h ⊢
    by_cases c : P (T p)
    · rw [if_pos c] at h ⊢
      exact run_end m (p + 1) (by omega)
    · rw [if_neg c]
      exact c
def kwl (w : Nat) : List Nat := match w with
  | 1 => [108, 111, 97, 100] | 2 => [115, 116, 111, 114, 101] | 3 => [97, 100, 100] | 4 => [114, 101, 115, 116] | 5 => [97, 103, 97, 105, 110] | 6 => [101, 118, 105, 99, 116]
  | 7 => [100, 101, 108, 105, 118, 101, 114] | 8 => [108, 97, 115, 116] | 9 => [116, 105, 99, 107] | 10 => [99, 97, 108, 109] | 11 => [103, 111] | 12 => [112, 111, 108, 105, 99, 121]
  | _ => []
def kc (w i : Nat) : Nat := (kwl w).getD i 32
def swid (w : Nat) : Nat := if w ≤ 5 then 327 + w else 315 + w
theorem kc_r : ∀ w, w < 13 → 1 ≤ w → ∀ i, i < (kwl w).length → sch (swid w) (nI i) = nI (kc w i) := by decide +kernel
theorem kc_n : ∀ w, w < 13 → 1 ≤ w → slenN (swid w) = (kwl w).length ∧ 1 ≤ (kwl w).length ∧ (kwl w).length ≤ 7 := by decide +kernel
theorem kc_l : ∀ w, w < 13 → 1 ≤ w → ∀ i, i < 7 → kc w i < 128 ∧ (kc w i = 32 ↔ (kwl w).length ≤ i) := by decide +kernel
theorem kc_u : ∀ w, w < 13 → 1 ≤ w → ∀ v, v < 13 → 1 ≤ v → (∀ i, i < 7 → kc w i = kc v i) → w = v := by decide +kernel
theorem kc_p : ∀ w, w < 13 → 1 ≤ w → ∀ i, i < 7 → 0 < kc w i := by decide +kernel
/-- the keyword as a number -/
def kwv (w : Nat) : Nat := (kwl w).foldl (fun a c => a * 256 + c) 0
theorem kwv_l : ∀ w, w < 13 → j_kws.getD w 0 = lN (kwv w) ∧ kwv w < 2 ^ 64 := by decide +kernel
theorem kwv_u : ∀ w, w < 13 → 1 ≤ w → ∀ v, v < 13 → 1 ≤ v → kwv w = kwv v → w = v := by decide +kernel
theorem kwv_b : ∀ w, w < 13 → 1 ≤ w → ∀ j, j < 8 → kwv w / 256 ^ j % 256 = if j < (kwl w).length then kc w ((kwl w).length - 1 - j) else 0 := by decide +kernel
theorem wb_tb (n : Nat) : (lN n).toBitVec = BitVec.ofNat 64 n := rfl
theorem wb_inj {a b : Int64} (h : a.toBitVec = b.toBitVec) : a = b := Int64.toBitVec_inj.mp h
theorem wb_tn {n : Nat} (h : n < 2 ^ 64) : (lN n).toBitVec.toNat = n := by rw [wb_tb, BitVec.toNat_ofNat, Nat.mod_eq_of_lt h]
theorem wb_c : ∀ k, k < 64 → ((nI k).toInt64 &&& 63) = lN k := by decide +kernel
theorem wb_sm : ∀ k, k < 64 → (BitVec.ofNat 64 k).smod 64 = BitVec.ofNat 64 k := by decide +kernel
theorem wb_mod (n : Nat) : lN n = lN (n % 2 ^ 64) := wb_inj (by rw [wb_tb, wb_tb]; apply BitVec.eq_of_toNat_eq; rw [BitVec.toNat_ofNat, BitVec.toNat_ofNat, Nat.mod_mod])
theorem wb_shl (n : Nat) {k : Nat} (hk : k < 64) : lN n <<< ((nI k).toInt64 &&& 63) = lN (n * 2 ^ k) := by
  rw [wb_c k hk]
  apply wb_inj
  rw [Int64.toBitVec_shiftLeft, wb_tb, wb_tb, wb_tb, wb_sm k hk]
  apply BitVec.eq_of_toNat_eq
  rw [BitVec.shiftLeft_eq', BitVec.toNat_shiftLeft, BitVec.toNat_ofNat, BitVec.toNat_ofNat, BitVec.toNat_ofNat, Nat.mod_eq_of_lt (show k < 2 ^ 64 by omega), Nat.shiftLeft_eq, Nat.mul_mod, Nat.mod_mod, ← Nat.mul_mod]
theorem wb_or {a b : Nat} (ha : a < 2 ^ 64) (hb : b < 2 ^ 64) : lN a ||| lN b = lN (a ||| b) := by
  apply wb_inj
  rw [Int64.toBitVec_or, wb_tb, wb_tb, wb_tb]
  apply BitVec.eq_of_toNat_eq
  rw [BitVec.toNat_or, BitVec.toNat_ofNat, BitVec.toNat_ofNat, BitVec.toNat_ofNat, Nat.mod_eq_of_lt ha, Nat.mod_eq_of_lt hb, Nat.mod_eq_of_lt (Nat.or_lt_two_pow ha hb)]
theorem lN_i64 {a b : Nat} (ha : a < 2 ^ 64) (hb : b < 2 ^ 64) (h : lN a = lN b) : a = b := by
  rw [← wb_tn ha, ← wb_tn hb, h]
theorem lw8_n {v c : Nat} (hc : c < 256) : lw8 (lN v) (nI c) = lN ((v * 256 + c) % 2 ^ 64) := by
  unfold lw8
  rw [wb_shl v (show 8 < 64 by omega), nI_l (by omega), wb_mod (v * 2 ^ 8), wb_or (Nat.mod_lt _ (by omega)) (by omega)]
  congr 1
  have e1 : v * 2 ^ 8 % 2 ^ 64 = 2 ^ 8 * (v % 2 ^ 56) := by omega
  rw [e1, ← Nat.two_pow_add_eq_or_of_lt (show c < 2 ^ 8 by omega)]
  omega
theorem byt_s {v t i : Nat} (ht : t < 256) (hi : i < 8) : (v * 256 + t) % 2 ^ 64 / 256 ^ i % 256 = if i = 0 then t else v / 256 ^ (i - 1) % 256 := by
  have hc : i = 0 ∨ i = 1 ∨ i = 2 ∨ i = 3 ∨ i = 4 ∨ i = 5 ∨ i = 6 ∨ i = 7 := by omega
  rcases hc with rfl | rfl | rfl | rfl | rfl | rfl | rfl | rfl
  · rw [if_pos rfl]; omega
  all_goals rw [if_neg (by omega)]; simp only [Nat.reducePow, Nat.reduceSub]; omega
theorem byt_i {a b : Nat} (ha : a < 2 ^ 64) (hb : b < 2 ^ 64) (h : ∀ j, j < 8 → a / 256 ^ j % 256 = b / 256 ^ j % 256) : a = b := by
  have h0 := h 0 (by omega)
  have h1 := h 1 (by omega)
  have h2 := h 2 (by omega)
  have h3 := h 3 (by omega)
  have h4 := h 4 (by omega)
  have h5 := h 5 (by omega)
  have h6 := h 6 (by omega)
  have h7 := h 7 (by omega)
  simp only [Nat.reducePow] at *
  omega
/-- the letters of a run, eight bits each -/
def wdv (T : Nat → Nat) : Nat → Nat → Nat → Nat
  | 0, _, v => v
  | m + 1, p, v => if isL (T p) then wdv T m (p + 1) ((v * 256 + T p) % 2 ^ 64) else v
theorem isL_b {c : Nat} (h : isL c) : 65 ≤ c ∧ c < 256 := by unfold isL at h; omega
theorem wdv_b {T : Nat → Nat} : ∀ (m p v : Nat), v < 2 ^ 64 → wdv T m p v < 2 ^ 64 ∧ ∀ j, j < 8 → wdv T m p v / 256 ^ j % 256 = if j < run isL T m p - p then T (run isL T m p - 1 - j) else v / 256 ^ (j - (run isL T m p - p)) % 256
  | 0, p, v, hv => by
    unfold wdv run
    exact ⟨hv, fun j _ => by rw [if_neg (by omega), Nat.sub_self, Nat.sub_zero]⟩
  | m + 1, p, v, hv => by
    unfold wdv run
    by_cases c : isL (T p)
    · rw [if_pos c, if_pos c]
      have hb := isL_b c
      have IH := wdv_b (T := T) m (p + 1) ((v * 256 + T p) % 2 ^ 64) (Nat.mod_lt _ (by omega))
      have hr := run_ge (P := isL) (T := T) m (p + 1)
      refine ⟨IH.1, fun j hj => ?_⟩
      rw [IH.2 j hj]
      generalize run isL T m (p + 1) = e at hr
      by_cases c1 : j < e - (p + 1)
      · rw [if_pos c1, if_pos (by omega)]
      · rw [if_neg c1, byt_s hb.2 (by omega)]
        by_cases c2 : j < e - p
        · rw [if_pos (by omega), if_pos c2, show e - 1 - j = p by omega]
        · rw [if_neg (by omega), if_neg c2, show j - (e - (p + 1)) - 1 = j - (e - p) by omega]
    · rw [if_neg c, if_neg c]
      exact ⟨hv, fun j _ => by rw [if_neg (by omega), Nat.sub_self, Nat.sub_zero]⟩
/-- the letters p .. e are the word w -/
def mt (T : Nat → Nat) (p e w : Nat) : Prop := e ≤ p + 7 ∧ ∀ i, i < 7 → (if i < e - p then T (p + i) else 32) = kc w i
theorem mt_u {T : Nat → Nat} {p e w v : Nat} (hw : w < 13) (hw1 : 1 ≤ w) (hv : v < 13) (hv1 : 1 ≤ v) (h1 : mt T p e w) (h2 : mt T p e v) : w = v :=
  kc_u w hw hw1 v hv hv1 (fun i hi => by rw [← h1.2 i hi, ← h2.2 i hi])
theorem mw_same {M : j_M} {a i : Nat} {v : Int32} (h : M a i = v) : mw M a i v = M := by
  funext x j
  unfold mw
  by_cases c : x = a ∧ j = i ∧ x ≠ 0
  · rw [if_pos c, c.1, c.2.1, h]
  · rw [if_neg c]
theorem mw_mw {M : j_M} {a i : Nat} {v w : Int32} : mw (mw M a i v) a i w = mw M a i w := by
  funext x j
  unfold mw
  by_cases c : x = a ∧ j = i ∧ x ≠ 0
  · rw [if_pos c, if_pos c]
  · rw [if_neg c, if_neg c, if_neg c]
theorem mw_cm {M : j_M} {a i j : Nat} {v w : Int32} (h : i ≠ j) : mw (mw M a i v) a j w = mw (mw M a j w) a i v := by
  funext x y
  unfold mw
  by_cases c : x = a ∧ y = i ∧ x ≠ 0
  · rw [if_pos c, if_neg (by omega), if_pos c]
  · rw [if_neg c, if_neg c]
/-! ===== the class's reader ===== -/
def TC (M : j_M) (T : Nat → Nat) (n : Nat) : Prop := n ≤ 400 ∧ M 28 4 = nI n ∧ ∀ i, i < n → T i < 256 ∧ M 29 i = nI (T i)
theorem TC_w {M : j_M} {T : Nat → Nat} {n j : Nat} {v : Int32} (h : TC M T n) (hj : j ≠ 4) : TC (mw M 28 j v) T n :=
  ⟨h.1, by rw [mw_ne (by omega)]; exact h.2.1, fun i hi => by rw [mw_oth (by omega)]; exact h.2.2 i hi⟩
theorem x_isL {c : Nat} {M : j_M} (hc : c < 256) : xX8_isLetter (nI c) M = some (if isL c then nI 1 else nI 0, M) := by
  unfold xX8_isLetter xX8_isLetter_12
  simp (disch := omega) only [e_gd, e_ix, e_oli2, e_oml2, e_obi2, e_obv2, e_add, e_mul, e_sub, e_eq, e_lt, e_le, e_eq0, e_0eq, e_lt0, e_0lt, e_le0, e_0le, e_m1, e_m1', e_m1lt, Nat.add_assoc, Nat.not_lt_zero, Nat.le_zero_eq]
  unfold isL
  (repeat' split) <;> first | rfl | omega
theorem x_isD {c : Nat} {M : j_M} (hc : c < 256) : xX8_isDigit (nI c) M = some (if isD c then nI 1 else nI 0, M) := by
  unfold xX8_isDigit
  simp (disch := omega) only [e_gd, e_ix, e_oli2, e_oml2, e_obi2, e_obv2, e_add, e_mul, e_sub, e_eq, e_lt, e_le, e_eq0, e_0eq, e_lt0, e_0lt, e_le0, e_0le, e_m1, e_m1', e_m1lt, Nat.add_assoc, Nat.not_lt_zero, Nat.le_zero_eq]
  unfold isD
  (repeat' split) <;> first | rfl | omega
theorem x_rt0 {T : Nat → Nat} {n k : Nat} : ∀ (m p : Nat) (M : j_M), TC M T n → M 28 9 = nI p → p + m = n → xX8_readToken_0 (k + m + 1) M = xX8_readToken_52 (mw M 28 9 (nI (run isS T m p)))
  | 0, p, M, h, h9, hp => by
    have hn := h.1
    rw [xX8_readToken_0.eq_2, h9, h.2.1]
    simp (disch := omega) only [e_gd, e_ix, e_oli2, e_oml2, e_obi2, e_obv2, e_add, e_mul, e_sub, e_eq, e_lt, e_le, e_eq0, e_0eq, e_lt0, e_0lt, e_le0, e_0le, e_m1, e_m1', e_m1lt, Nat.add_assoc, Nat.not_lt_zero, Nat.le_zero_eq]
    rw [if_pos (by omega)]
    unfold run
    rw [mw_same h9]
  | m + 1, p, M, h, h9, hp => by
    have hn := h.1
    have hT := h.2.2 p (by omega)
    rw [show k + (m + 1) + 1 = (k + m + 1) + 1 by omega, xX8_readToken_0.eq_2, h9, h.2.1]
    simp (disch := omega) only [e_gd, e_ix, e_oli2, e_oml2, e_obi2, e_obv2, e_add, e_mul, e_sub, e_eq, e_lt, e_le, e_eq0, e_0eq, e_lt0, e_0lt, e_le0, e_0le, e_m1, e_m1', e_m1lt, Nat.add_assoc, Nat.not_lt_zero, Nat.le_zero_eq, hT.2]
    rw [if_neg (by omega)]
    have go : xX8_readToken_39 (xX8_readToken_0 (k + m + 1)) M = xX8_readToken_52 (mw M 28 9 (nI (run isS T m (p + 1)))) := by
      unfold xX8_readToken_39
      rw [h9, e_oli2, e_oml2, e_add, x_rt0 m (p + 1) _ (TC_w h (by omega)) (mw_at (by omega)) (by omega), mw_mw]
    unfold run
    by_cases c : isS (T p)
    · rw [if_pos c]
      rcases c with c | c
      · rw [if_pos c]; exact go
      · rw [if_neg (by omega), if_pos c]; exact go
    · rw [if_neg c, mw_same h9]
      unfold isS at c
      rw [if_neg (by omega), if_neg (by omega)]
theorem x_tw2 {T : Nat → Nat} {n k : Nat} : ∀ (m p v : Nat) (M : j_M), TC M T n → M 28 9 = nI p → p + m = n → xX8_takeWord_2 (k + m + 1) (lN v) M = xX8_takeWord_57 (lN (wdv T m p v)) (mw M 28 9 (nI (run isL T m p)))
  | 0, p, v, M, h, h9, hp => by
    have hn := h.1
    rw [xX8_takeWord_2.eq_2, h9, h.2.1]
    simp (disch := omega) only [e_gd, e_ix, e_oli2, e_oml2, e_obi2, e_obv2, e_add, e_mul, e_sub, e_eq, e_lt, e_le, e_eq0, e_0eq, e_lt0, e_0lt, e_le0, e_0le, e_m1, e_m1', e_m1lt, Nat.add_assoc, Nat.not_lt_zero, Nat.le_zero_eq]
    rw [if_pos (by omega)]
    unfold run wdv
    rw [mw_same h9]
  | m + 1, p, v, M, h, h9, hp => by
    have hn := h.1
    have hT := h.2.2 p (by omega)
    rw [show k + (m + 1) + 1 = (k + m + 1) + 1 by omega, xX8_takeWord_2.eq_2, h9, h.2.1]
    simp (disch := omega) only [e_gd, e_ix, e_oli2, e_oml2, e_obi2, e_obv2, e_add, e_mul, e_sub, e_eq, e_lt, e_le, e_eq0, e_0eq, e_lt0, e_0lt, e_le0, e_0le, e_m1, e_m1', e_m1lt, Nat.add_assoc, Nat.not_lt_zero, Nat.le_zero_eq, hT.2]
    rw [if_neg (by omega), x_isL hT.1, e_obi2]
    unfold run wdv
    by_cases c : isL (T p)
    · rw [if_pos c, if_pos c, if_pos c, if_neg (by decide), h9]
      simp (disch := omega) only [e_gd, e_ix, e_oli2, e_oml2, e_obi2, e_obv2, e_add, e_mul, e_sub, e_eq, e_lt, e_le, e_eq0, e_0eq, e_lt0, e_0lt, e_le0, e_0le, e_m1, e_m1', e_m1lt, Nat.add_assoc, Nat.not_lt_zero, Nat.le_zero_eq, hT.2]
      rw [lw8_n hT.1, show k + (m + 1) = k + m + 1 from rfl, x_tw2 m (p + 1) _ _ (TC_w h (by omega)) (mw_at (by omega)) (by omega), mw_mw]
    · rw [if_neg c, if_neg c, if_neg c, if_pos (by decide), mw_same h9]
def dgv (T : Nat → Nat) (pl : Nat) : Nat → Nat → Nat → Nat
  | 0, _, v => v
  | m + 1, p, v => if isD (T p) then dgv T pl m (p + 1) (if pl + 4 ≤ p then v else v * 10 + T p - 48) else v
theorem x_td5 {T : Nat → Nat} {n k pl : Nat} : ∀ (m p v : Nat) (M : j_M), TC M T n → M 28 9 = nI p → M 28 12 = nI pl → M 28 11 = nI v → pl ≤ p → p + m = n → xX8_takeDigits_5 (k + m + 1) M = xX8_takeDigits_81 (mw (mw M 28 9 (nI (run isD T m p))) 28 11 (nI (dgv T pl m p v)))
  | 0, p, v, M, h, h9, h12, h11, hpl, hp => by
    have hn := h.1
    rw [xX8_takeDigits_5.eq_2, h9, h.2.1]
    simp (disch := omega) only [e_gd, e_ix, e_oli2, e_oml2, e_obi2, e_obv2, e_add, e_mul, e_sub, e_eq, e_lt, e_le, e_eq0, e_0eq, e_lt0, e_0lt, e_le0, e_0le, e_m1, e_m1', e_m1lt, Nat.add_assoc, Nat.not_lt_zero, Nat.le_zero_eq]
    rw [if_pos (by omega)]
    unfold run dgv
    rw [mw_same h9, mw_same h11]
  | m + 1, p, v, M, h, h9, h12, h11, hpl, hp => by
    have hn := h.1
    have hT := h.2.2 p (by omega)
    rw [show k + (m + 1) + 1 = (k + m + 1) + 1 by omega, xX8_takeDigits_5.eq_2, h9, h.2.1]
    simp (disch := omega) only [e_gd, e_ix, e_oli2, e_oml2, e_obi2, e_obv2, e_add, e_mul, e_sub, e_eq, e_lt, e_le, e_eq0, e_0eq, e_lt0, e_0lt, e_le0, e_0le, e_m1, e_m1', e_m1lt, Nat.add_assoc, Nat.not_lt_zero, Nat.le_zero_eq, hT.2]
    rw [if_neg (by omega), x_isD hT.1, e_obi2]
    unfold run dgv
    by_cases c : isD (T p)
    · rw [if_pos c, if_pos c, if_pos c, if_neg (by decide), h9, h12, h11]
      have c1 := c.1
      simp (disch := omega) only [e_gd, e_ix, e_oli2, e_oml2, e_obi2, e_obv2, e_add, e_mul, e_sub, e_eq, e_lt, e_le, e_eq0, e_0eq, e_lt0, e_0lt, e_le0, e_0le, e_m1, e_m1', e_m1lt, Nat.add_assoc, Nat.not_lt_zero, Nat.le_zero_eq, hT.2]
      rw [show k + (m + 1) = k + m + 1 from rfl]
      unfold xX8_takeDigits_68
      by_cases c4 : pl + 4 ≤ p
      · rw [if_pos (show 4 ≤ p - pl by omega), if_pos c4, h9, e_oli2, e_oml2, e_add, x_td5 m (p + 1) v _ (TC_w h (by omega)) (mw_at (by omega)) (by rw [mw_ne (by omega), h12]) (by rw [mw_ne (by omega), h11]) (by omega) (by omega), mw_mw]
      · rw [if_neg (show ¬ 4 ≤ p - pl by omega), if_neg c4, mw_ne (by omega), h9, e_oli2, e_oml2, e_add, x_td5 m (p + 1) (v * 10 + T p - 48) _ (TC_w (TC_w h (by omega)) (by omega)) (mw_at (by omega)) (by rw [mw_ne (by omega), mw_ne (by omega), h12]) (by rw [mw_ne (by omega), mw_at (by omega)]) (by omega) (by omega), mw_mw, mw_cm (i := 11) (j := 9) (by omega), mw_mw]
    · rw [if_neg c, if_neg c, if_neg c, if_pos (by decide), mw_same h9, mw_same h11]
/-- the run's letters are the keyword's where the numbers are the same -/
theorem wd_mt {T : Nat → Nat} {m p e w : Nat} (he : e = run isL T m p) (hw : w < 13) (hw1 : 1 ≤ w) : wdv T m p 0 = kwv w ↔ mt T p e w := by
  have hb := wdv_b (T := T) m p 0 (by omega)
  have hr := run_ge (P := isL) (T := T) m p
  have hin := run_in (P := isL) (T := T) m p
  rw [← he] at hb hr hin
  have hk := kc_n w hw hw1
  have hT : ∀ i, p ≤ i → i < e → 65 ≤ T i := fun i h1 h2 => (isL_b (hin i h1 h2)).1
  have hz : ∀ j, j < 8 → wdv T m p 0 / 256 ^ j % 256 = if j < e - p then T (e - 1 - j) else 0 := fun j hj => by
    rw [hb.2 j hj, Nat.zero_div]
  constructor
  · intro h
    have hq : ∀ j, j < 8 → (if j < e - p then T (e - 1 - j) else 0) = if j < (kwl w).length then kc w ((kwl w).length - 1 - j) else 0 := fun j hj => by
      rw [← hz j hj, ← kwv_b w hw hw1 j hj, h]
    have hL : e - p = (kwl w).length := by
      have h8 : e - p < 8 := by
        by_cases c : e - p < 8
        · exact c
        · have a := hq 7 (by omega)
          rw [if_pos (by omega), if_neg (by omega)] at a
          have := hT (e - 1 - 7) (by omega) (by omega)
          omega
      by_cases c1 : e - p < (kwl w).length
      · have a := hq (e - p) (by omega)
        rw [if_neg (by omega), if_pos c1] at a
        have := kc_p w hw hw1 ((kwl w).length - 1 - (e - p)) (by omega)
        omega
      · by_cases c2 : (kwl w).length < e - p
        · have a := hq (kwl w).length (by omega)
          rw [if_pos c2, if_neg (by omega)] at a
          have := hT (e - 1 - (kwl w).length) (by omega) (by omega)
          omega
        · omega
    refine ⟨by omega, fun i hi => ?_⟩
    by_cases c : i < e - p
    · rw [if_pos c]
      have a := hq (e - p - 1 - i) (by omega)
      rw [if_pos (by omega), if_pos (by omega), show e - 1 - (e - p - 1 - i) = p + i by omega, show (kwl w).length - 1 - (e - p - 1 - i) = i by omega] at a
      exact a
    · rw [if_neg c]
      exact ((kc_l w hw hw1 i hi).2.2 (by omega)).symm
  · intro h
    have hL : e - p = (kwl w).length := by
      have h7 := h.1
      by_cases c1 : e - p < (kwl w).length
      · have a := h.2 (e - p) (by omega)
        rw [if_neg (by omega)] at a
        have := (kc_l w hw hw1 (e - p) (by omega)).2.1 a.symm
        omega
      · by_cases c2 : (kwl w).length < e - p
        · have a := h.2 (kwl w).length (by omega)
          rw [if_pos c2, (kc_l w hw hw1 (kwl w).length (by omega)).2.2 (by omega)] at a
          have := hT (p + (kwl w).length) (by omega) (by omega)
          omega
        · omega
    refine byt_i hb.1 (kwv_l w hw).2 (fun j hj => ?_)
    rw [hz j hj, kwv_b w hw hw1 j hj]
    by_cases c : j < e - p
    · rw [if_pos c, if_pos (by omega)]
      have a := h.2 (e - p - 1 - j) (by omega)
      rw [if_pos (by omega)] at a
      rw [show e - 1 - j = p + (e - p - 1 - j) by omega, a, show (kwl w).length - 1 - j = e - p - 1 - j by omega]
    · rw [if_neg c, if_neg (by omega)]
theorem x_tw_n {V k : Nat} {M : j_M} (hV : V < 2 ^ 64) : ∀ (m l : Nat), 1 ≤ l → l + m = 13 → (∀ w, l ≤ w → w < 13 → V ≠ kwv w) → xX8_takeWord_65 (lN V) (k + m + 1) (nI l) M = some M
  | 0, l, h1, hl, hq => by
    rw [xX8_takeWord_65.eq_2]
    simp (disch := omega) only [e_gd, e_ix, e_oli2, e_oml2, e_obi2, e_obv2, e_add, e_mul, e_sub, e_eq, e_lt, e_le, e_eq0, e_0eq, e_lt0, e_0lt, e_le0, e_0le, e_m1, e_m1', e_m1lt, Nat.add_assoc, Nat.not_lt_zero, Nat.le_zero_eq]
    rw [if_pos (by omega)]
  | m + 1, l, h1, hl, hq => by
    rw [show k + (m + 1) + 1 = (k + m + 1) + 1 by omega, xX8_takeWord_65.eq_2]
    simp (disch := omega) only [e_gd, e_ix, e_oli2, e_oml2, e_obi2, e_obv2, e_add, e_mul, e_sub, e_eq, e_lt, e_le, e_eq0, e_0eq, e_lt0, e_0lt, e_le0, e_0le, e_m1, e_m1', e_m1lt, Nat.add_assoc, Nat.not_lt_zero, Nat.le_zero_eq]
    rw [if_neg (by omega)]
    have hk := kwv_l l (by omega)
    have hne : ¬ j_kws.getD l 0 = lN V := fun e => hq l (by omega) (by omega) (lN_i64 hk.2 hV (by rw [← hk.1]; exact e)).symm
    rw [if_neg hne]
    exact x_tw_n hV m (l + 1) (by omega) (by omega) (fun w a b => hq w (by omega) b)
theorem x_tw_1 {V k w : Nat} {M : j_M} (hw : w < 13) (hm : V = kwv w) : ∀ (m l : Nat), 1 ≤ l → l ≤ w → l + m = 13 → xX8_takeWord_65 (lN V) (k + m + 1) (nI l) M = some (mw (mw M 28 10 (nI 1)) 28 11 (nI w))
  | 0, l, h1, hlw, hl => by omega
  | m + 1, l, h1, hlw, hl => by
    have hV : V < 2 ^ 64 := by rw [hm]; exact (kwv_l w hw).2
    rw [show k + (m + 1) + 1 = (k + m + 1) + 1 by omega, xX8_takeWord_65.eq_2]
    simp (disch := omega) only [e_gd, e_ix, e_oli2, e_oml2, e_obi2, e_obv2, e_add, e_mul, e_sub, e_eq, e_lt, e_le, e_eq0, e_0eq, e_lt0, e_0lt, e_le0, e_0le, e_m1, e_m1', e_m1lt, Nat.add_assoc, Nat.not_lt_zero, Nat.le_zero_eq]
    rw [if_neg (by omega)]
    have hk := kwv_l l (by omega)
    by_cases c : l = w
    · subst c
      rw [if_pos (by rw [hk.1, hm])]
      exact x_tw_n hV m (l + 1) (by omega) (by omega) (fun v a b c => by
        have := kwv_u l hw h1 v b (by omega) (by rw [← hm, c])
        omega)
    · have hne : ¬ j_kws.getD l 0 = lN V := fun e => c (kwv_u l (by omega) h1 w hw (by omega) (by rw [← hm]; exact lN_i64 hk.2 hV (by rw [← hk.1]; exact e)))
      rw [if_neg hne]
      exact x_tw_1 hw hm m (l + 1) (by omega) (by omega) (by omega)
