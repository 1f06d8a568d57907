/-! ===== tokens ===== -/
abbrev isL (c : Nat) : Prop := (97 ≤ c ∧ c ≤ 122) ∨ (65 ≤ c ∧ c ≤ 90)
abbrev isD (c : Nat) : Prop := 48 ≤ c ∧ c ≤ 57
abbrev isS (c : Nat) : Prop := c = 32 ∨ c = 10
def run (P : Nat → Prop) [DecidablePred P] (T : Nat → Nat) : Nat → Nat → Nat
  | 0, p => p
  | m + 1, p => if P (T p) then run P T m (p + 1) else p
theorem run_ge {P : Nat → Prop} [DecidablePred P] {T : Nat → Nat} : ∀ (m p : Nat), p ≤ run P T m p ∧ run P T m p ≤ p + m
  | 0, p => by unfold run; omega
  | m + 1, p => by
    unfold run
    by_cases h : P (T p)
    · rw [if_pos h]
      have := run_ge (P := P) (T := T) m (p + 1)
      omega
    · rw [if_neg h]
      omega
theorem run_in {P : Nat → Prop} [DecidablePred P] {T : Nat → Nat} : ∀ (m p i : Nat), p ≤ i → i < run P T m p → P (T i)
  | 0, p, i, h1, h2 => by unfold run at h2; omega
  | m + 1, p, i, h1, h2 => by
    unfold run at h2
    by_cases h : P (T p)
    · rw [if_pos h] at h2
      by_cases e : i = p
      · rw [e]; exact h
      · exact run_in m (p + 1) i (by omega) h2
    · rw [if_neg h] at h2
      omega
theorem run_end {P : Nat → Prop} [DecidablePred P] {T : Nat → Nat} : ∀ (m p : Nat), run P T m p < p + m → ¬ P (T (run P T m p))
  | 0, p, h => by unfold run at h; omega
  | m + 1, p, h => by
    unfold run at h ⊢
    by_cases c : P (T p)
    · rw [if_pos c] at h ⊢
      exact run_end m (p + 1) (by omega)
    · rw [if_neg c]
      exact c
def kwl (w : Nat) : List Nat := match w with
  | 1 => [108, 111, 97, 100] | 2 => [115, 116, 111, 114, 101] | 3 => [97, 100, 100] | 4 => [114, 101, 115, 116] | 5 => [97, 103, 97, 105, 110] | 6 => [101, 118, 105, 99, 116]
  | 7 => [100, 101, 108, 105, 118, 101, 114] | 8 => [108, 97, 115, 116] | 9 => [116, 105, 99, 107] | 10 => [99, 97, 108, 109] | 11 => [103, 111] | 12 => [112, 111, 108, 105, 99, 121]
  | _ => []
def kc (w i : Nat) : Nat := (kwl w).getD i 32
def swid (w : Nat) : Nat := if w ≤ 5 then 327 + w else 315 + w
theorem kc_x : ∀ w, w < 13 → 1 ≤ w → ∀ i, i < 7 → sch 320 (nI (7 * (w - 1) + i)) = nI (kc w i) := by decide +kernel
theorem kc_r : ∀ w, w < 13 → 1 ≤ w → ∀ i, i < (kwl w).length → sch (swid w) (nI i) = nI (kc w i) := by decide +kernel
theorem kc_n : ∀ w, w < 13 → 1 ≤ w → slenN (swid w) = (kwl w).length ∧ 1 ≤ (kwl w).length ∧ (kwl w).length ≤ 7 := by decide +kernel
theorem kc_l : ∀ w, w < 13 → 1 ≤ w → ∀ i, i < 7 → kc w i < 128 ∧ (kc w i = 32 ↔ (kwl w).length ≤ i) := by decide +kernel
theorem kc_u : ∀ w, w < 13 → 1 ≤ w → ∀ v, v < 13 → 1 ≤ v → (∀ i, i < 7 → kc w i = kc v i) → w = v := by decide +kernel
theorem len_320 : slenN 320 = 84 := by decide +kernel
/-- the letters p .. e are the word w -/
def mt (T : Nat → Nat) (p e w : Nat) : Prop := e ≤ p + 7 ∧ ∀ i, i < 7 → (if i < e - p then T (p + i) else 32) = kc w i
theorem mt_u {T : Nat → Nat} {p e w v : Nat} (hw : w < 13) (hw1 : 1 ≤ w) (hv : v < 13) (hv1 : 1 ≤ v) (h1 : mt T p e w) (h2 : mt T p e v) : w = v :=
  kc_u w hw hw1 v hv hv1 (fun i hi => by rw [← h1.2 i hi, ← h2.2 i hi])
theorem mw_same {M : j_M} {a i : Nat} {v : Int32} (h : M a i = v) : mw M a i v = M := by
  funext x j
  unfold mw
  by_cases c : x = a ∧ j = i ∧ x ≠ 0
  · rw [if_pos c, c.1, c.2.1, h]
  · rw [if_neg c]
theorem mw_mw {M : j_M} {a i : Nat} {v w : Int32} : mw (mw M a i v) a i w = mw M a i w := by
  funext x j
  unfold mw
  by_cases c : x = a ∧ j = i ∧ x ≠ 0
  · rw [if_pos c, if_pos c]
  · rw [if_neg c, if_neg c, if_neg c]
theorem mw_cm {M : j_M} {a i j : Nat} {v w : Int32} (h : i ≠ j) : mw (mw M a i v) a j w = mw (mw M a j w) a i v := by
  funext x y
  unfold mw
  by_cases c : x = a ∧ y = i ∧ x ≠ 0
  · rw [if_pos c, if_neg (by omega), if_pos c]
  · rw [if_neg c, if_neg c]
/-! ===== the class's reader ===== -/
def TC (M : j_M) (T : Nat → Nat) (n : Nat) : Prop := n ≤ 400 ∧ M 28 4 = nI n ∧ ∀ i, i < n → T i < 256 ∧ M 29 i = nI (T i)
theorem TC_w {M : j_M} {T : Nat → Nat} {n j : Nat} {v : Int32} (h : TC M T n) (hj : j ≠ 4) : TC (mw M 28 j v) T n :=
  ⟨h.1, by rw [mw_ne (by omega)]; exact h.2.1, fun i hi => by rw [mw_oth (by omega)]; exact h.2.2 i hi⟩
theorem x_isL {c : Nat} {M : j_M} (hc : c < 256) : xX8_isLetter (nI c) M = some (if isL c then nI 1 else nI 0, M) := by
  unfold xX8_isLetter xX8_isLetter_12
  simp (disch := omega) only [e_gd, e_ix, e_oli2, e_oml2, e_obi2, e_obv2, e_add, e_mul, e_sub, e_eq, e_lt, e_le, e_eq0, e_0eq, e_lt0, e_0lt, e_le0, e_0le, e_m1, e_m1', e_m1lt, Nat.add_assoc, Nat.not_lt_zero, Nat.le_zero_eq]
  unfold isL
  (repeat' split) <;> first | rfl | omega
theorem x_isD {c : Nat} {M : j_M} (hc : c < 256) : xX8_isDigit (nI c) M = some (if isD c then nI 1 else nI 0, M) := by
  unfold xX8_isDigit
  simp (disch := omega) only [e_gd, e_ix, e_oli2, e_oml2, e_obi2, e_obv2, e_add, e_mul, e_sub, e_eq, e_lt, e_le, e_eq0, e_0eq, e_lt0, e_0lt, e_le0, e_0le, e_m1, e_m1', e_m1lt, Nat.add_assoc, Nat.not_lt_zero, Nat.le_zero_eq]
  unfold isD
  (repeat' split) <;> first | rfl | omega
theorem x_rt0 {T : Nat → Nat} {n k : Nat} : ∀ (m p : Nat) (M : j_M), TC M T n → M 28 9 = nI p → p + m = n → xX8_readToken_0 (k + m + 1) M = xX8_readToken_52 (mw M 28 9 (nI (run isS T m p)))
  | 0, p, M, h, h9, hp => by
    have hn := h.1
    rw [xX8_readToken_0.eq_2, h9, h.2.1]
    simp (disch := omega) only [e_gd, e_ix, e_oli2, e_oml2, e_obi2, e_obv2, e_add, e_mul, e_sub, e_eq, e_lt, e_le, e_eq0, e_0eq, e_lt0, e_0lt, e_le0, e_0le, e_m1, e_m1', e_m1lt, Nat.add_assoc, Nat.not_lt_zero, Nat.le_zero_eq]
    rw [if_pos (by omega)]
    unfold run
    rw [mw_same h9]
  | m + 1, p, M, h, h9, hp => by
    have hn := h.1
    have hT := h.2.2 p (by omega)
    rw [show k + (m + 1) + 1 = (k + m + 1) + 1 by omega, xX8_readToken_0.eq_2, h9, h.2.1]
    simp (disch := omega) only [e_gd, e_ix, e_oli2, e_oml2, e_obi2, e_obv2, e_add, e_mul, e_sub, e_eq, e_lt, e_le, e_eq0, e_0eq, e_lt0, e_0lt, e_le0, e_0le, e_m1, e_m1', e_m1lt, Nat.add_assoc, Nat.not_lt_zero, Nat.le_zero_eq, hT.2]
    rw [if_neg (by omega)]
    have go : xX8_readToken_39 (xX8_readToken_0 (k + m + 1)) M = xX8_readToken_52 (mw M 28 9 (nI (run isS T m (p + 1)))) := by
      unfold xX8_readToken_39
      rw [h9, e_oli2, e_oml2, e_add, x_rt0 m (p + 1) _ (TC_w h (by omega)) (mw_at (by omega)) (by omega), mw_mw]
    unfold run
    by_cases c : isS (T p)
    · rw [if_pos c]
      rcases c with c | c
      · rw [if_pos c]; exact go
      · rw [if_neg (by omega), if_pos c]; exact go
    · rw [if_neg c, mw_same h9]
      unfold isS at c
      rw [if_neg (by omega), if_neg (by omega)]
theorem x_tw0 {T : Nat → Nat} {n k : Nat} : ∀ (m p : Nat) (M : j_M), TC M T n → M 28 9 = nI p → p + m = n → xX8_takeWord_0 (k + m + 1) M = xX8_takeWord_39 (mw M 28 9 (nI (run isL T m p)))
  | 0, p, M, h, h9, hp => by
    have hn := h.1
    rw [xX8_takeWord_0.eq_2, h9, h.2.1]
    simp (disch := omega) only [e_gd, e_ix, e_oli2, e_oml2, e_obi2, e_obv2, e_add, e_mul, e_sub, e_eq, e_lt, e_le, e_eq0, e_0eq, e_lt0, e_0lt, e_le0, e_0le, e_m1, e_m1', e_m1lt, Nat.add_assoc, Nat.not_lt_zero, Nat.le_zero_eq]
    rw [if_pos (by omega)]
    unfold run
    rw [mw_same h9]
  | m + 1, p, M, h, h9, hp => by
    have hn := h.1
    have hT := h.2.2 p (by omega)
    rw [show k + (m + 1) + 1 = (k + m + 1) + 1 by omega, xX8_takeWord_0.eq_2, h9, h.2.1]
    simp (disch := omega) only [e_gd, e_ix, e_oli2, e_oml2, e_obi2, e_obv2, e_add, e_mul, e_sub, e_eq, e_lt, e_le, e_eq0, e_0eq, e_lt0, e_0lt, e_le0, e_0le, e_m1, e_m1', e_m1lt, Nat.add_assoc, Nat.not_lt_zero, Nat.le_zero_eq, hT.2]
    rw [if_neg (by omega), x_isL hT.1, e_obi2]
    unfold run
    by_cases c : isL (T p)
    · rw [if_pos c, if_pos c, if_neg (by decide), h9, e_add, show k + (m + 1) = k + m + 1 from rfl, x_tw0 m (p + 1) _ (TC_w h (by omega)) (mw_at (by omega)) (by omega), mw_mw]
    · rw [if_neg c, if_neg c, if_pos (by decide), mw_same h9]
def dgv (T : Nat → Nat) (pl : Nat) : Nat → Nat → Nat → Nat
  | 0, _, v => v
  | m + 1, p, v => if isD (T p) then dgv T pl m (p + 1) (if pl + 4 ≤ p then v else v * 10 + T p - 48) else v
theorem x_td5 {T : Nat → Nat} {n k pl : Nat} : ∀ (m p v : Nat) (M : j_M), TC M T n → M 28 9 = nI p → M 28 12 = nI pl → M 28 11 = nI v → pl ≤ p → p + m = n → xX8_takeDigits_5 (k + m + 1) M = xX8_takeDigits_81 (mw (mw M 28 9 (nI (run isD T m p))) 28 11 (nI (dgv T pl m p v)))
  | 0, p, v, M, h, h9, h12, h11, hpl, hp => by
    have hn := h.1
    rw [xX8_takeDigits_5.eq_2, h9, h.2.1]
    simp (disch := omega) only [e_gd, e_ix, e_oli2, e_oml2, e_obi2, e_obv2, e_add, e_mul, e_sub, e_eq, e_lt, e_le, e_eq0, e_0eq, e_lt0, e_0lt, e_le0, e_0le, e_m1, e_m1', e_m1lt, Nat.add_assoc, Nat.not_lt_zero, Nat.le_zero_eq]
    rw [if_pos (by omega)]
    unfold run dgv
    rw [mw_same h9, mw_same h11]
  | m + 1, p, v, M, h, h9, h12, h11, hpl, hp => by
    have hn := h.1
    have hT := h.2.2 p (by omega)
    rw [show k + (m + 1) + 1 = (k + m + 1) + 1 by omega, xX8_takeDigits_5.eq_2, h9, h.2.1]
    simp (disch := omega) only [e_gd, e_ix, e_oli2, e_oml2, e_obi2, e_obv2, e_add, e_mul, e_sub, e_eq, e_lt, e_le, e_eq0, e_0eq, e_lt0, e_0lt, e_le0, e_0le, e_m1, e_m1', e_m1lt, Nat.add_assoc, Nat.not_lt_zero, Nat.le_zero_eq, hT.2]
    rw [if_neg (by omega), x_isD hT.1, e_obi2]
    unfold run dgv
    by_cases c : isD (T p)
    · rw [if_pos c, if_pos c, if_pos c, if_neg (by decide), h9, h12, h11]
      have c1 := c.1
      simp (disch := omega) only [e_gd, e_ix, e_oli2, e_oml2, e_obi2, e_obv2, e_add, e_mul, e_sub, e_eq, e_lt, e_le, e_eq0, e_0eq, e_lt0, e_0lt, e_le0, e_0le, e_m1, e_m1', e_m1lt, Nat.add_assoc, Nat.not_lt_zero, Nat.le_zero_eq, hT.2]
      rw [show k + (m + 1) = k + m + 1 from rfl]
      unfold xX8_takeDigits_68
      by_cases c4 : pl + 4 ≤ p
      · rw [if_pos (show 4 ≤ p - pl by omega), if_pos c4, h9, e_oli2, e_oml2, e_add, x_td5 m (p + 1) v _ (TC_w h (by omega)) (mw_at (by omega)) (by rw [mw_ne (by omega), h12]) (by rw [mw_ne (by omega), h11]) (by omega) (by omega), mw_mw]
      · rw [if_neg (show ¬ 4 ≤ p - pl by omega), if_neg c4, mw_ne (by omega), h9, e_oli2, e_oml2, e_add, x_td5 m (p + 1) (v * 10 + T p - 48) _ (TC_w (TC_w h (by omega)) (by omega)) (mw_at (by omega)) (by rw [mw_ne (by omega), mw_ne (by omega), h12]) (by rw [mw_ne (by omega), mw_at (by omega)]) (by omega) (by omega), mw_mw, mw_cm (i := 11) (j := 9) (by omega), mw_mw]
    · rw [if_neg c, if_neg c, if_neg c, if_pos (by decide), mw_same h9, mw_same h11]
theorem x_kw20 {T : Nat → Nat} {n p e w k : Nat} {M : j_M} (h : TC M T n) (h12 : M 28 12 = nI p) (hpe : p ≤ e) (hen : e ≤ n) (hw : w < 13) (hw1 : 1 ≤ w) (he7 : e ≤ p + 7) : ∀ (m i : Nat), i + m = 7 → ((∀ j, i ≤ j → j < 7 → (if j < e - p then T (p + j) else 32) = kc w j) ∧ xX8_isKeyword_20 (k + m + 1) (nI w) (nI (e - p)) (nI i) M = some (nI 1, M)) ∨ ((¬ ∀ j, i ≤ j → j < 7 → (if j < e - p then T (p + j) else 32) = kc w j) ∧ xX8_isKeyword_20 (k + m + 1) (nI w) (nI (e - p)) (nI i) M = some (nI 0, M))
  | 0, i, hi => by
    refine Or.inl ⟨fun j h1 h2 => by omega, ?_⟩
    rw [xX8_isKeyword_20.eq_2]
    simp (disch := omega) only [e_gd, e_ix, e_oli2, e_oml2, e_obi2, e_obv2, e_add, e_mul, e_sub, e_eq, e_lt, e_le, e_eq0, e_0eq, e_lt0, e_0lt, e_le0, e_0le, e_m1, e_m1', e_m1lt, Nat.add_assoc, Nat.not_lt_zero, Nat.le_zero_eq]
    rw [if_pos (show 7 ≤ i by omega)]
  | m + 1, i, hi => by
    have hn := h.1
    have hk := kc_l w hw hw1 i (by omega)
    have IH := x_kw20 (k := k) h h12 hpe hen hw hw1 he7 m (i + 1) (by omega)
    have go : ∀ c, c < 256 → (if i < e - p then T (p + i) else 32) = c → xX8_isKeyword_20 (k + (m + 1) + 1) (nI w) (nI (e - p)) (nI i) M = xX8_isKeyword_47 (xX8_isKeyword_20 (k + m + 1)) (nI w) (nI (e - p)) (nI i) (nI c) M := by
      intro c hc ec
      rw [show k + (m + 1) + 1 = (k + m + 1) + 1 by omega, xX8_isKeyword_20.eq_2]
      simp (disch := omega) only [e_gd, e_ix, e_oli2, e_oml2, e_obi2, e_obv2, e_add, e_mul, e_sub, e_eq, e_lt, e_le, e_eq0, e_0eq, e_lt0, e_0lt, e_le0, e_0le, e_m1, e_m1', e_m1lt, Nat.add_assoc, Nat.not_lt_zero, Nat.le_zero_eq]
      rw [if_neg (show ¬ 7 ≤ i by omega)]
      by_cases q : i < e - p
      · have hT := h.2.2 (p + i) (by omega)
        rw [if_pos q] at ec
        rw [if_neg (by omega), h12]
        simp (disch := omega) only [e_gd, e_ix, e_oli2, e_oml2, e_obi2, e_obv2, e_add, e_mul, e_sub, e_eq, e_lt, e_le, e_eq0, e_0eq, e_lt0, e_0lt, e_le0, e_0le, e_m1, e_m1', e_m1lt, Nat.add_assoc, Nat.not_lt_zero, Nat.le_zero_eq, hT.2, ec]
      · rw [if_neg q] at ec
        rw [if_pos (by omega), ← ec]
    obtain ⟨c, hc, ec⟩ : ∃ c, c < 256 ∧ (if i < e - p then T (p + i) else 32) = c := by
      by_cases q : i < e - p
      · exact ⟨T (p + i), (h.2.2 (p + i) (by omega)).1, by rw [if_pos q]⟩
      · exact ⟨32, by omega, by rw [if_neg q]⟩
    have e47 : xX8_isKeyword_47 (xX8_isKeyword_20 (k + m + 1)) (nI w) (nI (e - p)) (nI i) (nI c) M = if kc w i = c then xX8_isKeyword_20 (k + m + 1) (nI w) (nI (e - p)) (nI (i + 1)) M else some (nI 0, M) := by
      unfold xX8_isKeyword_47 xsch
      rw [len_320]
      simp (disch := omega) only [e_gd, e_ix, e_oli2, e_oml2, e_obi2, e_obv2, e_add, e_mul, e_sub, e_eq, e_lt, e_le, e_eq0, e_0eq, e_lt0, e_0lt, e_le0, e_0le, e_m1, e_m1', e_m1lt, Nat.add_assoc, Nat.not_lt_zero, Nat.le_zero_eq]
      rw [show (w - 1) * 7 + i = 7 * (w - 1) + i by omega, kc_x w hw hw1 i (by omega)]
      simp (disch := omega) only [e_gd, e_ix, e_oli2, e_oml2, e_obi2, e_obv2, e_add, e_mul, e_sub, e_eq, e_lt, e_le, e_eq0, e_0eq, e_lt0, e_0lt, e_le0, e_0le, e_m1, e_m1', e_m1lt, Nat.add_assoc, Nat.not_lt_zero, Nat.le_zero_eq]
    rw [go c hc ec, e47]
    by_cases cc : kc w i = c
    · rw [if_pos cc]
      rcases IH with ⟨q, hq⟩ | ⟨q, hq⟩
      · refine Or.inl ⟨fun j h1 h2 => ?_, hq⟩
        by_cases ej : j = i
        · rw [ej, ec, cc]
        · exact q j (by omega) h2
      · exact Or.inr ⟨fun q2 => q (fun j h1 h2 => q2 j (by omega) h2), hq⟩
    · rw [if_neg cc]
      exact Or.inr ⟨fun q2 => cc (by rw [← q2 i (by omega) (by omega), ec]), rfl⟩
theorem x_kw {T : Nat → Nat} {n p e w : Nat} {M : j_M} (h : TC M T n) (h9 : M 28 9 = nI e) (h12 : M 28 12 = nI p) (hpe : p ≤ e) (hen : e ≤ n) (hw : w < 13) (hw1 : 1 ≤ w) : (mt T p e w ∧ xX8_isKeyword (nI w) M = some (nI 1, M)) ∨ (¬ mt T p e w ∧ xX8_isKeyword (nI w) M = some (nI 0, M)) := by
  have hn := h.1
  unfold xX8_isKeyword
  rw [h9, h12]
  simp (disch := omega) only [e_gd, e_ix, e_oli2, e_oml2, e_obi2, e_obv2, e_add, e_mul, e_sub, e_eq, e_lt, e_le, e_eq0, e_0eq, e_lt0, e_0lt, e_le0, e_0le, e_m1, e_m1', e_m1lt, Nat.add_assoc, Nat.not_lt_zero, Nat.le_zero_eq]
  by_cases c : e - p ≤ 7
  · rw [if_pos c, show fu = 999992 + 7 + 1 by unfold fu; omega]
    rcases x_kw20 (k := 999992) h h12 hpe hen hw hw1 (by omega) 7 0 (by omega) with ⟨q, hq⟩ | ⟨q, hq⟩
    · exact Or.inl ⟨⟨by omega, fun i hi => q i (by omega) hi⟩, hq⟩
    · exact Or.inr ⟨fun q2 => q (fun j _ h2 => q2.2 j h2), hq⟩
  · rw [if_neg c]
    exact Or.inr ⟨fun q => by have := q.1; omega, rfl⟩
theorem x_tw_n {T : Nat → Nat} {n p e k : Nat} {M : j_M} (h : TC M T n) (h9 : M 28 9 = nI e) (h12 : M 28 12 = nI p) (hpe : p ≤ e) (hen : e ≤ n) : ∀ (m l : Nat), 1 ≤ l → l + m = 13 → (∀ w, l ≤ w → w < 13 → ¬ mt T p e w) → xX8_takeWord_47 (k + m + 1) (nI l) M = some M
  | 0, l, h1, hl, hq => by
    rw [xX8_takeWord_47.eq_2]
    simp (disch := omega) only [e_gd, e_ix, e_oli2, e_oml2, e_obi2, e_obv2, e_add, e_mul, e_sub, e_eq, e_lt, e_le, e_eq0, e_0eq, e_lt0, e_0lt, e_le0, e_0le, e_m1, e_m1', e_m1lt, Nat.add_assoc, Nat.not_lt_zero, Nat.le_zero_eq]
    rw [if_pos (by omega)]
  | m + 1, l, h1, hl, hq => by
    rw [show k + (m + 1) + 1 = (k + m + 1) + 1 by omega, xX8_takeWord_47.eq_2]
    simp (disch := omega) only [e_gd, e_ix, e_oli2, e_oml2, e_obi2, e_obv2, e_add, e_mul, e_sub, e_eq, e_lt, e_le, e_eq0, e_0eq, e_lt0, e_0lt, e_le0, e_0le, e_m1, e_m1', e_m1lt, Nat.add_assoc, Nat.not_lt_zero, Nat.le_zero_eq]
    rw [if_neg (by omega)]
    rcases x_kw h h9 h12 hpe hen (show l < 13 by omega) h1 with ⟨q, _⟩ | ⟨q, hk⟩
    · exact absurd q (hq l (by omega) (by omega))
    · rw [hk, e_obi2, if_pos (by decide)]
      exact x_tw_n h h9 h12 hpe hen m (l + 1) (by omega) (by omega) (fun w a b => hq w (by omega) b)
theorem x_tw_1 {T : Nat → Nat} {n p e k w : Nat} {M : j_M} (h : TC M T n) (h9 : M 28 9 = nI e) (h12 : M 28 12 = nI p) (hpe : p ≤ e) (hen : e ≤ n) (hw : w < 13) (hm : mt T p e w) : ∀ (m l : Nat), 1 ≤ l → l ≤ w → l + m = 13 → xX8_takeWord_47 (k + m + 1) (nI l) M = some (mw (mw M 28 10 (nI 1)) 28 11 (nI w))
  | 0, l, h1, hlw, hl => by omega
  | m + 1, l, h1, hlw, hl => by
    rw [show k + (m + 1) + 1 = (k + m + 1) + 1 by omega, xX8_takeWord_47.eq_2]
    simp (disch := omega) only [e_gd, e_ix, e_oli2, e_oml2, e_obi2, e_obv2, e_add, e_mul, e_sub, e_eq, e_lt, e_le, e_eq0, e_0eq, e_lt0, e_0lt, e_le0, e_0le, e_m1, e_m1', e_m1lt, Nat.add_assoc, Nat.not_lt_zero, Nat.le_zero_eq]
    rw [if_neg (by omega)]
    rcases x_kw h h9 h12 hpe hen (show l < 13 by omega) h1 with ⟨q, hk⟩ | ⟨q, hk⟩
    · have e1 := mt_u (by omega) h1 hw (by omega) q hm
      subst e1
      rw [hk, e_obi2, if_neg (by decide)]
      exact x_tw_n (TC_w (TC_w h (by omega)) (by omega)) (by rw [mw_ne (by omega), mw_ne (by omega), h9]) (by rw [mw_ne (by omega), mw_ne (by omega), h12]) hpe hen m (l + 1) (by omega) (by omega) (fun v a b c => by have := mt_u b (by omega) hw h1 c q; omega)
    · have : l ≠ w := fun c => q (c ▸ hm)
      rw [hk, e_obi2, if_pos (by decide)]
      exact x_tw_1 h h9 h12 hpe hen hw hm m (l + 1) (by omega) (by omega) (by omega)
