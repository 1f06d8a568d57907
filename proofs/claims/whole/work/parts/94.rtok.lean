/-! ===== a token: the reference ===== -/
def TR (M : j_M) (T : Nat → Nat) (n : Nat) : Prop := n ≤ 400 ∧ M 200 11 = nI n ∧ ∀ i, i < n → T i < 256 ∧ (T i < 128 → M 205 i = nI (T i)) ∧ (128 ≤ T i → M 205 i < 0)
theorem TR_w {M : j_M} {T : Nat → Nat} {n j : Nat} {v : Int32} (h : TR M T n) (hj : j ≠ 11) : TR (mw M 200 j v) T n :=
  ⟨h.1, by rw [mw_ne (by omega)]; exact h.2.1, fun i hi => by rw [mw_oth (by omega)]; exact h.2.2 i hi⟩
theorem te {M : j_M} {T : Nat → Nat} {n p c : Nat} (h : TR M T n) (hp : p < n) (hc : c < 128) : (M 205 p = nI c) = (T p = c) := by
  obtain ⟨a1, a2, a3⟩ := h.2.2 p hp
  by_cases q : T p < 128
  · rw [a2 q, e_eq (by omega) (by omega)]
  · rw [neg_eq (a3 (by omega)) (by omega)]
    exact (eq_false (by omega)).symm
theorem ti {M : j_M} {T : Nat → Nat} {n p a b : Nat} (h : TR M T n) (hp : p < n) (ha : a < 128) (hb : b < 128) : xX12_isIn (M 205 p) (nI a) (nI b) M = some (if a ≤ T p ∧ T p ≤ b then nI 1 else nI 0, M) := by
  obtain ⟨a1, a2, a3⟩ := h.2.2 p hp
  by_cases q : T p < 128
  · rw [a2 q, m_isIn M (by omega) (by omega) (by omega)]
  · rw [q_isInN (a3 (by omega)) (by omega), if_neg (by omega)]
theorem r_isD {M : j_M} {T : Nat → Nat} {n p : Nat} (h : TR M T n) (h12 : M 200 12 = nI p) (hp : p ≤ n) : xX12_isDigit M = some (if p < n ∧ isD (T p) then nI 1 else nI 0, M) := by
  have hn := h.1
  unfold xX12_isDigit
  rw [h12, h.2.1]
  simp (disch := omega) only [e_gd, e_ix, e_oli2, e_oml2, e_obi2, e_obv2, e_add, e_mul, e_sub, e_eq, e_lt, e_le, e_eq0, e_0eq, e_lt0, e_0lt, e_le0, e_0le, e_m1, e_m1', e_m1lt, Nat.add_assoc, Nat.not_lt_zero, Nat.le_zero_eq]
  by_cases c : p < n
  · rw [if_neg (by omega), ti h c (by omega) (by omega), e_obi2]
    by_cases d : 48 ≤ T p ∧ T p ≤ 57
    · rw [if_pos d, if_neg (by decide), if_pos ⟨c, d⟩]
    · rw [if_neg d, if_pos (by decide), if_neg (fun q => d q.2)]
  · rw [if_pos (by omega), if_neg (fun q => c q.1)]
theorem r_isL {M : j_M} {T : Nat → Nat} {n p : Nat} (h : TR M T n) (h12 : M 200 12 = nI p) (hp : p ≤ n) : xX12_isLetter M = some (if p < n ∧ isL (T p) then nI 1 else nI 0, M) := by
  have hn := h.1
  unfold xX12_isLetter
  rw [h12, h.2.1]
  simp (disch := omega) only [e_gd, e_ix, e_oli2, e_oml2, e_obi2, e_obv2, e_add, e_mul, e_sub, e_eq, e_lt, e_le, e_eq0, e_0eq, e_lt0, e_0lt, e_le0, e_0le, e_m1, e_m1', e_m1lt, Nat.add_assoc, Nat.not_lt_zero, Nat.le_zero_eq]
  by_cases c : p < n
  · rw [if_neg (by omega), ti h c (by omega) (by omega), e_obi2]
    by_cases d : 97 ≤ T p ∧ T p ≤ 122
    · rw [if_pos d, if_neg (by decide), if_pos ⟨c, Or.inl d⟩]
    · rw [if_neg d, if_pos (by decide), h12]
      simp (disch := omega) only [e_gd, e_ix, e_oli2, e_oml2, e_obi2, e_obv2, e_add, e_mul, e_sub, e_eq, e_lt, e_le, e_eq0, e_0eq, e_lt0, e_0lt, e_le0, e_0le, e_m1, e_m1', e_m1lt, Nat.add_assoc, Nat.not_lt_zero, Nat.le_zero_eq]
      rw [ti h c (by omega) (by omega), e_obi2]
      by_cases f : 65 ≤ T p ∧ T p ≤ 90
      · rw [if_pos f, if_neg (by decide), if_pos ⟨c, Or.inr f⟩]
      · rw [if_neg f, if_pos (by decide), if_neg (fun q => q.2.elim d f)]
  · rw [if_pos (by omega), if_neg (fun q => c q.1)]
theorem r_go0 {T : Nat → Nat} {n k : Nat} : ∀ (m p : Nat) (M : j_M), TR M T n → M 200 12 = nI p → p + m = n → xX12_goesOn_0 (k + m + 1) M = xX12_goesOn_52 (mw M 200 12 (nI (run isS T m p)))
  | 0, p, M, h, h9, hp => by
    have hn := h.1
    rw [xX12_goesOn_0.eq_2, h9, h.2.1]
    simp (disch := omega) only [e_gd, e_ix, e_oli2, e_oml2, e_obi2, e_obv2, e_add, e_mul, e_sub, e_eq, e_lt, e_le, e_eq0, e_0eq, e_lt0, e_0lt, e_le0, e_0le, e_m1, e_m1', e_m1lt, Nat.add_assoc, Nat.not_lt_zero, Nat.le_zero_eq]
    rw [if_pos (by omega)]
    unfold run
    rw [mw_same h9]
  | m + 1, p, M, h, h9, hp => by
    have hn := h.1
    rw [show k + (m + 1) + 1 = (k + m + 1) + 1 by omega, xX12_goesOn_0.eq_2, h9, h.2.1]
    simp (disch := omega) only [e_gd, e_ix, e_oli2, e_oml2, e_obi2, e_obv2, e_add, e_mul, e_sub, e_eq, e_lt, e_le, e_eq0, e_0eq, e_lt0, e_0lt, e_le0, e_0le, e_m1, e_m1', e_m1lt, Nat.add_assoc, Nat.not_lt_zero, Nat.le_zero_eq]
    simp only [te h (show p < n by omega) (show 32 < 128 by omega), te h (show p < n by omega) (show 10 < 128 by omega)]
    rw [if_neg (by omega)]
    have go : xX12_goesOn_39 (xX12_goesOn_0 (k + m + 1)) M = xX12_goesOn_52 (mw M 200 12 (nI (run isS T m (p + 1)))) := by
      unfold xX12_goesOn_39
      rw [h9, e_oli2, e_oml2, e_add, r_go0 m (p + 1) _ (TR_w h (by omega)) (mw_at (by omega)) (by omega), mw_mw]
    unfold run
    by_cases c : isS (T p)
    · rw [if_pos c]
      rcases c with c | c
      · rw [if_pos c]; exact go
      · rw [if_neg (by omega), if_pos c]; exact go
    · rw [if_neg c, mw_same h9]
      unfold isS at c
      rw [if_neg (by omega), if_neg (by omega)]
theorem r_go86 {T : Nat → Nat} {n k : Nat} : ∀ (m p : Nat) (M : j_M), TR M T n → M 200 12 = nI p → p + m = n → xX12_goesOn_86 (k + m + 1) M = obi (xX12_wordOf (mw M 200 12 (nI (run isL T m p)))) fun v4 M3 => oml (mw M3 200 13 v4) fun M5 => some M5
  | 0, p, M, h, h9, hp => by
    have hn := h.1
    rw [xX12_goesOn_86.eq_2, r_isL h h9 (by omega), e_obi2, if_neg (show ¬ (p < n ∧ isL (T p)) from fun q => by omega), if_pos (by decide)]
    unfold run
    rw [mw_same h9]
  | m + 1, p, M, h, h9, hp => by
    have hn := h.1
    rw [show k + (m + 1) + 1 = (k + m + 1) + 1 by omega, xX12_goesOn_86.eq_2, r_isL h h9 (by omega), e_obi2]
    unfold run
    by_cases c : isL (T p)
    · rw [if_pos (show p < n ∧ isL (T p) from ⟨by omega, c⟩), if_neg (by decide), if_pos c, h9, e_oli2, e_oml2, e_add, r_go86 m (p + 1) _ (TR_w h (by omega)) (mw_at (by omega)) (by omega), mw_mw]
    · rw [if_neg (show ¬ (p < n ∧ isL (T p)) from fun q => c q.2), if_pos (by decide), if_neg c, mw_same h9]
def rdg (T : Nat → Nat) (pl : Nat) : Nat → Nat → Nat → Nat
  | 0, _, v => v
  | m + 1, p, v => if isD (T p) then rdg T pl m (p + 1) (if pl + 4 ≤ p then 0 else v * 10 + T p - 48) else v
theorem rdg_e {T : Nat → Nat} {pl : Nat} : ∀ (m p v : Nat), run isD T m p ≤ pl + 4 → rdg T pl m p v = dgv T pl m p v
  | 0, _, _, _ => rfl
  | m + 1, p, v, h => by
    unfold run at h
    unfold rdg dgv
    by_cases c : isD (T p)
    · rw [if_pos c] at h
      have := (run_ge (P := isD) (T := T) m (p + 1)).1
      rw [if_pos c, if_pos c, if_neg (by omega), if_neg (by omega)]
      exact rdg_e m (p + 1) _ h
    · rw [if_neg c, if_neg c]
theorem r_go129 {T : Nat → Nat} {n k pl : Nat} : ∀ (m p v : Nat) (M : j_M), TR M T n → M 200 12 = nI p → M 200 14 = nI pl → M 200 15 = nI v → pl ≤ p → p + m = n → xX12_goesOn_129 (k + m + 1) M = some (mw (mw (mw M 200 12 (nI (run isD T m p))) 200 15 (nI (rdg T pl m p v))) 200 13 (nI (if run isD T m p ≤ pl + 4 then 2 else 1)))
  | 0, p, v, M, h, h9, h14, h15, hpl, hp => by
    have hn := h.1
    rw [xX12_goesOn_129.eq_2, r_isD h h9 (by omega), e_obi2, if_neg (show ¬ (p < n ∧ isD (T p)) from fun q => by omega), if_pos (by decide), h9, h14]
    simp (disch := omega) only [e_gd, e_ix, e_oli2, e_oml2, e_obi2, e_obv2, e_add, e_mul, e_sub, e_eq, e_lt, e_le, e_eq0, e_0eq, e_lt0, e_0lt, e_le0, e_0le, e_m1, e_m1', e_m1lt, Nat.add_assoc, Nat.not_lt_zero, Nat.le_zero_eq]
    unfold run rdg xX12_goesOn_209
    rw [mw_same h9, mw_same h15]
    by_cases c : p ≤ pl + 4
    · rw [if_pos (by omega), if_pos c, e_oml2]
    · rw [if_neg (by omega), if_neg c, e_oml2]
  | m + 1, p, v, M, h, h9, h14, h15, hpl, hp => by
    have hn := h.1
    have hT := h.2.2 p (by omega)
    rw [show k + (m + 1) + 1 = (k + m + 1) + 1 by omega, xX12_goesOn_129.eq_2, r_isD h h9 (by omega), e_obi2]
    unfold run rdg
    by_cases c : isD (T p)
    · have c1 := c.1
      have c2 := c.2
      rw [if_pos (show p < n ∧ isD (T p) from ⟨by omega, c⟩), if_neg (by decide), if_pos c, if_pos c, h9, h14, h15]
      simp (disch := omega) only [e_gd, e_ix, e_oli2, e_oml2, e_obi2, e_obv2, e_add, e_mul, e_sub, e_eq, e_lt, e_le, e_eq0, e_0eq, e_lt0, e_0lt, e_le0, e_0le, e_m1, e_m1', e_m1lt, Nat.add_assoc, Nat.not_lt_zero, Nat.le_zero_eq, hT.2.1]
      unfold xX12_goesOn_174
      by_cases c4 : pl + 4 ≤ p
      · rw [if_pos (show 4 ≤ p - pl by omega), if_pos c4, e_oml2, mw_ne (by omega), h9, e_oli2, e_oml2, e_add, show k + (m + 1) = k + m + 1 from rfl, r_go129 m (p + 1) 0 _ (TR_w (TR_w h (by omega)) (by omega)) (mw_at (by omega)) (by rw [mw_ne (by omega), mw_ne (by omega), h14]) (by rw [mw_ne (by omega), mw_at (by omega)]) (by omega) (by omega), mw_mw, mw_cm (i := 15) (j := 12) (by omega), mw_mw]
      · rw [if_neg (show ¬ 4 ≤ p - pl by omega), if_neg c4, e_oml2, mw_ne (by omega), h9, e_oli2, e_oml2, e_add, show k + (m + 1) = k + m + 1 from rfl, Nat.mul_comm 10 v, r_go129 m (p + 1) (v * 10 + T p - 48) _ (TR_w (TR_w h (by omega)) (by omega)) (mw_at (by omega)) (by rw [mw_ne (by omega), mw_ne (by omega), h14]) (by rw [mw_ne (by omega), mw_at (by omega)]) (by omega) (by omega), mw_mw, mw_cm (i := 15) (j := 12) (by omega), mw_mw]
    · rw [if_neg (show ¬ (p < n ∧ isD (T p)) from fun q => c q.2), if_pos (by decide), if_neg c, if_neg c, h9, h14]
      simp (disch := omega) only [e_gd, e_ix, e_oli2, e_oml2, e_obi2, e_obv2, e_add, e_mul, e_sub, e_eq, e_lt, e_le, e_eq0, e_0eq, e_lt0, e_0lt, e_le0, e_0le, e_m1, e_m1', e_m1lt, Nat.add_assoc, Nat.not_lt_zero, Nat.le_zero_eq]
      unfold xX12_goesOn_209
      rw [mw_same h9, mw_same h15]
      by_cases c : p ≤ pl + 4
      · rw [if_pos (by omega), if_pos c, e_oml2]
      · rw [if_neg (by omega), if_neg c, e_oml2]
/-! ===== a word: the reference ===== -/
theorem r_is20 {T : Nat → Nat} {n p w k : Nat} {M : j_M} (h : TR M T n) (h14 : M 200 14 = nI p) (hw : w < 13) (hw1 : 1 ≤ w) (hpn : p + (kwl w).length ≤ n) : ∀ (m i : Nat), i + m = (kwl w).length → ((∀ j, i ≤ j → j < (kwl w).length → T (p + j) = kc w j) ∧ xX12_is_20 (swid w) (k + m + 1) (nI i) M = some (nI 1, M)) ∨ ((¬ ∀ j, i ≤ j → j < (kwl w).length → T (p + j) = kc w j) ∧ xX12_is_20 (swid w) (k + m + 1) (nI i) M = some (nI 0, M))
  | 0, i, hi => by
    have hl := kc_n w hw hw1
    refine Or.inl ⟨fun j h1 h2 => by omega, ?_⟩
    rw [xX12_is_20.eq_2]
    unfold xslen slen
    rw [hl.1, e_obi2]
    simp (disch := omega) only [e_le]
    rw [if_pos (by omega)]
  | m + 1, i, hi => by
    have hn := h.1
    have hl := kc_n w hw hw1
    have hk := kc_l w hw hw1 i (by omega)
    have IH := r_is20 (k := k) h h14 hw hw1 hpn m (i + 1) (by omega)
    have e1 : xX12_is_20 (swid w) (k + (m + 1) + 1) (nI i) M = if T (p + i) = kc w i then xX12_is_20 (swid w) (k + m + 1) (nI (i + 1)) M else some (nI 0, M) := by
      rw [show k + (m + 1) + 1 = (k + m + 1) + 1 by omega, xX12_is_20.eq_2]
      unfold xslen slen xsch
      rw [hl.1, e_obi2]
      simp (disch := omega) only [e_gd, e_ix, e_oli2, e_oml2, e_obi2, e_obv2, e_add, e_mul, e_sub, e_eq, e_lt, e_le, e_eq0, e_0eq, e_lt0, e_0lt, e_le0, e_0le, e_m1, e_m1', e_m1lt, Nat.add_assoc, Nat.not_lt_zero, Nat.le_zero_eq, h14]
      rw [if_neg (by omega), kc_r w hw hw1 i (by omega)]
      simp only [te h (show p + i < n by omega) hk.1]
    rw [e1]
    by_cases cc : T (p + i) = kc w i
    · rw [if_pos cc]
      rcases IH with ⟨q, hq⟩ | ⟨q, hq⟩
      · refine Or.inl ⟨fun j h1 h2 => ?_, hq⟩
        by_cases ej : j = i
        · rw [ej, cc]
        · exact q j (by omega) h2
      · exact Or.inr ⟨fun q2 => q (fun j h1 h2 => q2 j (by omega) h2), hq⟩
    · rw [if_neg cc]
      exact Or.inr ⟨fun q2 => cc (q2 i (by omega) (by omega)), rfl⟩
theorem mt_iff {T : Nat → Nat} {p e w : Nat} (hpe : p ≤ e) (hL : ∀ i, p ≤ i → i < e → isL (T i)) (hw : w < 13) (hw1 : 1 ≤ w) : mt T p e w ↔ (e - p = (kwl w).length ∧ ∀ j, j < (kwl w).length → T (p + j) = kc w j) := by
  have hl := kc_n w hw hw1
  constructor
  · rintro ⟨h1, h2⟩
    have he : e - p = (kwl w).length := by
      by_cases c : e - p < (kwl w).length
      · have a := h2 (e - p) (by omega)
        rw [if_neg (by omega)] at a
        have := (kc_l w hw hw1 (e - p) (by omega)).2.1 a.symm
        omega
      · by_cases d : (kwl w).length < e - p
        · have a := h2 (kwl w).length (by omega)
          rw [if_pos d, (kc_l w hw hw1 (kwl w).length (by omega)).2.2 (by omega)] at a
          have := hL (p + (kwl w).length) (by omega) (by omega)
          unfold isL at this
          omega
        · omega
    refine ⟨he, fun j hj => ?_⟩
    have a := h2 j (by omega)
    rw [if_pos (by omega)] at a
    exact a
  · rintro ⟨h1, h2⟩
    refine ⟨by omega, fun i hi => ?_⟩
    by_cases c : i < e - p
    · rw [if_pos c]
      exact h2 i (by omega)
    · rw [if_neg c]
      exact ((kc_l w hw hw1 i hi).2.2 (by omega)).symm
theorem r_is {T : Nat → Nat} {n p e w : Nat} {M : j_M} (h : TR M T n) (h12 : M 200 12 = nI e) (h14 : M 200 14 = nI p) (hpe : p ≤ e) (hen : e ≤ n) (hL : ∀ i, p ≤ i → i < e → isL (T i)) (hw : w < 13) (hw1 : 1 ≤ w) : (mt T p e w ∧ xX12_is (swid w) M = some (nI 1, M)) ∨ (¬ mt T p e w ∧ xX12_is (swid w) M = some (nI 0, M)) := by
  have hn := h.1
  have hl := kc_n w hw hw1
  rw [mt_iff hpe hL hw hw1]
  unfold xX12_is xslen slen
  rw [h12, h14, hl.1]
  simp (disch := omega) only [e_gd, e_ix, e_oli2, e_oml2, e_obi2, e_obv2, e_add, e_mul, e_sub, e_eq, e_lt, e_le, e_eq0, e_0eq, e_lt0, e_0lt, e_le0, e_0le, e_m1, e_m1', e_m1lt, Nat.add_assoc, Nat.not_lt_zero, Nat.le_zero_eq]
  by_cases c : e - p = (kwl w).length
  · rw [if_pos c, show fu = (999999 - (kwl w).length) + (kwl w).length + 1 by unfold fu; omega]
    rcases r_is20 (k := 999999 - (kwl w).length) h h14 hw hw1 (by omega) (kwl w).length 0 (by omega) with ⟨q, hq⟩ | ⟨q, hq⟩
    · exact Or.inl ⟨⟨c, fun j hj => q j (by omega) hj⟩, hq⟩
    · exact Or.inr ⟨fun q2 => q (fun j _ h2 => q2.2 j h2), hq⟩
  · rw [if_neg c]
    exact Or.inr ⟨fun q => c q.1, rfl⟩
