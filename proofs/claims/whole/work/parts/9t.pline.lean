/-! ===== a line of the plan: both ===== -/
def z4 (M : j_M) (s : Nat) : j_M := mw (mw (mw (mw M 206 (4 * s) (nI 0)) 206 (4 * s + 1) (nI 0)) 206 (4 * s + 2) (nI 0)) 206 (4 * s + 3) (nI 0)
theorem z4_o {M : j_M} {s x : Nat} (h : x ≠ 206) : z4 M s x = M x := by
  unfold z4
  rw [mw_oth h, mw_oth h, mw_oth h, mw_oth h]
theorem z4_z {M : j_M} {s j : Nat} (h : j < 4) : z4 M s 206 (4 * s + j) = nI 0 := by
  unfold z4
  have : j = 0 ∨ j = 1 ∨ j = 2 ∨ j = 3 := by omega
  rcases this with rfl | rfl | rfl | rfl
  · rw [mw_ne (by omega), mw_ne (by omega), mw_ne (by omega), Nat.add_zero, mw_at (by omega)]
  · rw [mw_ne (by omega), mw_ne (by omega), mw_at (by omega)]
  · rw [mw_ne (by omega), mw_at (by omega)]
  · rw [mw_at (by omega)]
theorem z4_l {M : j_M} {s j : Nat} (h : j < 4 * s) : z4 M s 206 j = M 206 j := by
  unfold z4
  rw [mw_ne (by omega), mw_ne (by omega), mw_ne (by omega), mw_ne (by omega)]
theorem z4_k {M : j_M} {s : Nat} : HK M (z4 M s) := HK_t (HK_t (HK_t HK_w HK_w) HK_w) HK_w
theorem z4_r {M : j_M} {T : Nat → Nat} {n f k v pl nx s : Nat} (h : RT M T n f k v pl nx) : RT (z4 M s) T n f k v pl nx := RT_w (RT_w (RT_w (RT_w h)))
theorem r_92 {K : j_M → Option (Int32 × j_M)} {M : j_M} {s : Nat} (hs : M 200 16 = nI s) (hs2 : s < 24) : xX12_readsPlan_92 K fu (nI 0) M = obi (xX12_aLine (z4 M s)) fun v2 M1 => (if v2 = (0 : Int32) then some ((nI 0), M1) else oli (M1 200 16) fun v3 => oml (mw M1 200 16 (v3 + (nI 1))) fun M4 => K M4) := by
  have s1 : ∀ (n i : Nat) (M1 : j_M), i < 4 → M1 200 16 = nI s → xX12_readsPlan_92 K (n + 1) (nI i) M1 = xX12_readsPlan_92 K n (nI (i + 1)) (mw M1 206 (4 * s + i) (nI 0)) := by
    intro n i M1 hi h1
    rw [xX12_readsPlan_92.eq_2, if_neg (by rw [e_le (by omega) (by omega)]; omega), h1, e_oli2, e_mul, e_add, e_gd (by omega) (by omega), e_ix2 (by omega), e_oml2, e_add]
  rw [show fu = 999995 + 1 + 1 + 1 + 1 + 1 by unfold fu; omega, s1 _ 0 M (by omega) hs, s1 _ 1 _ (by omega) (by rw [mw_oth (by omega)]; exact hs), s1 _ 2 _ (by omega) (by rw [mw_oth (by omega), mw_oth (by omega)]; exact hs), s1 _ 3 _ (by omega) (by rw [mw_oth (by omega), mw_oth (by omega), mw_oth (by omega)]; exact hs), xX12_readsPlan_92.eq_2, if_pos (by decide)]
  rfl
def RPN (Mr B : j_M) (s z : Nat) : Prop := ∀ g, xX12_readsPlan_14 (g + 1) Mr = if z = 0 then some (nI 0, B) else xX12_readsPlan_14 g (mw B 200 16 (nI (s + 1)))
theorem r_pbad {M : j_M} {pl f : Nat} (h : M 200 14 = nI pl) : ∃ M', (obi (xX12_bad (nI f) M) fun v12 M11 => gz v12 (some (v12, M11))) = some (nI 0, M') ∧ RF M' f pl ∧ GK M M' := by
  obtain ⟨M1, e1, r1, g1⟩ := r_bad (f := f) h
  rw [e1, e_obi2, e_gz0]
  exact ⟨M1, rfl, r1, g1⟩
theorem tkm_p {k v : Nat} (hk : k = 1 → 1 ≤ v ∧ v < 13) : (9 ≤ tkm 1 k v ∧ tkm 1 k v ≤ 14) = (k = 1 ∧ 7 ≤ v) := by
  unfold tkm
  apply propext
  (repeat' split) <;> omega
/-- the reference's look at a line's first token -/
theorem r_p14 {M : j_M} {T : Nat → Nat} {n k v pl nx s : Nat} (h : RT M T n 1 k v pl nx) (hk0 : k ≠ 0) (hv : k = 1 → 1 ≤ v ∧ v < 13) (hv2 : k = 2 → v < 10000) (hs : M 200 16 = nI s) (hs2 : s ≤ 24) (g : Nat) : xX12_readsPlan_14 (g + 1) M = if k = 2 ∧ 5 < v then (obi (xX12_bad (nI 2) M) fun v12 M11 => gz v12 (some (v12, M11))) else if k = 2 ∨ (k = 1 ∧ 7 ≤ v) then (if s = 24 then (obi (xX12_bad (nI 3) M) fun v12 M11 => gz v12 (some (v12, M11))) else xX12_readsPlan_92 (xX12_readsPlan_14 g) fu (nI 0) M) else (obi (xX12_bad (nI 1) M) fun v12 M11 => gz v12 (some (v12, M11))) := by
  have t0 := (tkm_s (f := 1) (fun q => (hv q).2)).2.2.2
  have t2 := tkm_2 (f := 1) (fun q => (hv q).1)
  have tp := tkm_p hv
  have tl := tkm_le (f := 1) (fun q => (hv q).2)
  have e75 : xX12_readsPlan_75 (xX12_readsPlan_14 g) M = if s = 24 then (obi (xX12_bad (nI 3) M) fun v12 M11 => gz v12 (some (v12, M11))) else xX12_readsPlan_92 (xX12_readsPlan_14 g) fu (nI 0) M := by
    unfold xX12_readsPlan_75
    rw [hs, e_oli2]
    simp (disch := omega) only [e_eq]
  have h13 := h.2.2.2.2.2.1
  rw [xX12_readsPlan_14.eq_2]
  unfold xX12_readsPlan_49
  simp only [h13, e_oli2]
  rw [m_isIn M (by omega) (by omega) (by omega), e_obi2]
  simp only [h13]
  simp (disch := omega) only [e_eq, e_eq0, t0, t2, tp]
  rw [if_neg hk0]
  by_cases c2 : k = 2
  · have hv3 := hv2 c2
    rw [if_pos c2, if_pos c2, h.2.2.2.2.2.2.2 c2, m_isIn M (by omega) (by omega) (by omega), e_obi2]
    by_cases c5 : v ≤ 5
    · rw [if_pos (show 0 ≤ v ∧ v ≤ 5 by omega), if_neg (by decide), if_neg (show ¬ (k = 2 ∧ 5 < v) by omega), if_pos (Or.inl c2), e75]
    · rw [if_neg (show ¬ (0 ≤ v ∧ v ≤ 5) by omega), if_pos (by decide), if_pos (show k = 2 ∧ 5 < v by omega)]
  · rw [if_neg c2, if_neg c2, if_neg (show ¬ (k = 2 ∧ 5 < v) by omega)]
    by_cases c7 : k = 1 ∧ 7 ≤ v
    · rw [if_pos c7, if_neg (by decide), if_pos (Or.inr c7), e75]
    · rw [if_neg c7, if_pos (by decide), if_neg (show ¬ (k = 2 ∨ (k = 1 ∧ 7 ≤ v)) by omega)]
