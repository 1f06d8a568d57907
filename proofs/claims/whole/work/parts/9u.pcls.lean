/-! ===== a line of the plan: the class, by its first token ===== -/
theorem yl_13 {M : j_M} {k v pl s : Nat} (h5 : M 28 5 = nI 0) (h10 : M 28 10 = nI k) (hk : k ≤ 6) (h11 : k = 1 ∨ k = 2 → M 28 11 = nI v) (hv : k = 1 → v < 13) (hv2 : k = 2 → v < 10000) (h12 : M 28 12 = nI pl) (h7 : M 28 7 = nI s) (hs : s ≤ 24) :
    (¬ (k = 2 ∨ (k = 1 ∧ 7 ≤ v)) → ∃ A, xX8_readLine M = some A ∧ CF A 1 pl ∧ FK M A) ∧
    (k = 2 → 5 < v → ∃ A, xX8_readLine M = some A ∧ CF A 2 pl ∧ FK M A) ∧
    ((k = 2 ∧ v ≤ 5) ∨ (k = 1 ∧ 7 ≤ v) → s = 24 → ∃ A, xX8_readLine M = some A ∧ CF A 3 pl ∧ FK M A) ∧
    (k = 1 → 7 ≤ v → s < 24 → xX8_readLine M = xX8_readAct (nI 0) M) ∧
    (k = 2 → v ≤ 5 → s < 24 → xX8_readLine M = xX8_readLine_79 (nI 1) (nI v) M) := by
  have e58 : ∀ a b : Int32, s = 24 → ∃ A, xX8_readLine_58 a b M = some A ∧ CF A 3 pl ∧ FK M A := by
    intro a b hs24
    obtain ⟨A, e, c, f, _⟩ := x_refuse (f := 3) h12
    refine ⟨A, ?_, c, f⟩
    unfold xX8_readLine_58
    rw [h5, e_oli2, if_pos (by decide), h7, e_oli2, if_neg (by rw [e_lt (by omega) (by omega)]; omega), e, e_obv2, (yl_F c.1 (by decide) (by decide)).2.1]
  have e58' : ∀ a b : Int32, s < 24 → xX8_readLine_58 a b M = xX8_readLine_79 a b M := by
    intro a b hs24
    unfold xX8_readLine_58
    rw [h5, e_oli2, if_pos (by decide), h7, e_oli2, if_pos (by rw [e_lt (by omega) (by omega)]; omega)]
  have e13 : xX8_readLine M = if k = 2 then xX8_readLine_13 (nI 1) M else xX8_readLine_13 (nI 0) M := by
    unfold xX8_readLine
    rw [h10, e_oli2]
    simp (disch := omega) only [e_eq]
  have n2 : k = 2 → xX8_readLine M = if v ≤ 5 then xX8_readLine_58 (nI 1) (nI v) M else obv (xX8_refuse (nI 2) M) fun M4 => xX8_readLine_58 (nI 1) (nI v) M4 := by
    intro c
    have := hv2 c
    rw [e13, if_pos c]
    unfold xX8_readLine_13
    rw [h11 (Or.inr c), e_oli2, if_neg (by decide)]
    simp (disch := omega) only [e_le]
  have n1 : k = 1 → 7 ≤ v → xX8_readLine M = xX8_readLine_58 (nI 0) (nI v) M := by
    intro c c7
    have := hv c
    rw [e13, if_neg (by omega)]
    unfold xX8_readLine_13
    rw [h11 (Or.inl c), e_oli2, if_pos (by decide), h10, e_oli2, if_pos (by rw [c]), e_oli2, if_pos (by rw [e_le (by omega) (by omega)]; omega)]
  refine ⟨fun hb => ?_, fun c c5 => ?_, fun hb h24 => ?_, fun c c7 h24 => ?_, fun c c5 h24 => ?_⟩
  · obtain ⟨A, e, c, f, _⟩ := x_refuse (f := 1) h12
    refine ⟨A, ?_, c, f⟩
    have e53 : ∀ b : Int32, xX8_readLine_53 (nI 0) b M = some A := by
      intro b
      unfold xX8_readLine_53
      rw [e, e_obv2, (yl_F c.1 (by decide) (by decide)).1]
    rw [e13, if_neg (by omega)]
    unfold xX8_readLine_13
    rw [e_oli2, if_pos (by decide), h10, e_oli2, e53]
    by_cases c1 : k = 1
    · have := hv c1
      rw [if_pos (by rw [c1]), h11 (Or.inl c1), e_oli2, if_neg (by rw [e_le (by omega) (by omega)]; omega)]
    · rw [if_neg (by rw [e_eq (by omega) (by omega)]; exact c1)]
  · obtain ⟨A, e, c', f, _⟩ := x_refuse (f := 2) h12
    refine ⟨A, ?_, c', f⟩
    rw [n2 c, if_neg (by omega), e, e_obv2, (yl_F c'.1 (by decide) (by decide)).1]
  · rcases hb with ⟨c, c5⟩ | ⟨c, c7⟩
    · rw [n2 c, if_pos c5]
      exact e58 _ _ h24
    · rw [n1 c c7]
      exact e58 _ _ h24
  · rw [n1 c c7, e58' _ _ h24]
    unfold xX8_readLine_79
    rw [h5, e_oli2, if_pos (by decide), if_pos (by decide), yl_124 h5, if_pos (by decide)]
  · rw [n2 c, if_pos c5, e58' _ _ h24]
theorem yl_79 {M M2 : j_M} {u k v pl nx : Nat} (h5 : M 28 5 = nI 0) (e : xX8_readToken M = some M2) (t : TOKC M M2 k v pl nx) (hk : k ≤ 6) (hv : k = 1 → v < 13) : (k = 1 → v ≤ 3 ∨ v = 6 → xX8_readLine_79 (nI 1) (nI u) M = xX8_readAct (nI u) M2) ∧ (¬ (k = 1 ∧ (v ≤ 3 ∨ v = 6)) → ∃ A, xX8_readLine_79 (nI 1) (nI u) M = some A ∧ CF A 1 pl ∧ FK M A) := by
  have h5' : M2 28 5 = nI 0 := by rw [t.2.2.2.2.2 5 (by omega)]; exact h5
  obtain ⟨A, e1, c, f, _⟩ := x_refuse (f := 1) t.2.2.1
  have e119 : xX8_readLine_119 (nI 1) (nI u) M2 = some A := by
    unfold xX8_readLine_119
    rw [e1, e_obv2, (yl_F c.1 (by decide) (by decide)).2.2]
  have e124 : xX8_readLine_124 (nI 1) (nI u) M2 = xX8_readAct (nI u) M2 := by rw [yl_124 h5', if_neg (by decide)]
  have e79 : xX8_readLine_79 (nI 1) (nI u) M = if k = 1 ∧ (v ≤ 3 ∨ v = 6) then xX8_readAct (nI u) M2 else some A := by
    unfold xX8_readLine_79
    rw [h5, e_oli2, if_pos (by decide), if_neg (by decide), e, e_obv2, t.2.1, e_oli2, e119, e124]
    by_cases c1 : k = 1
    · have hv' := hv c1
      rw [if_pos (by rw [c1]), t.2.2.2.1 (Or.inl c1), e_oli2, e_oli2]
      simp (disch := omega) only [e_le, e_eq]
      by_cases c3 : v ≤ 3
      · rw [if_pos c3, if_pos (show k = 1 ∧ (v ≤ 3 ∨ v = 6) by omega)]
      · rw [if_neg c3]
        by_cases c6 : v = 6
        · rw [if_pos c6, if_pos (show k = 1 ∧ (v ≤ 3 ∨ v = 6) by omega)]
        · rw [if_neg c6, if_neg (show ¬ (k = 1 ∧ (v ≤ 3 ∨ v = 6)) by omega)]
    · rw [if_neg (by rw [e_eq (by omega) (by omega)]; exact c1), if_neg (show ¬ (k = 1 ∧ (v ≤ 3 ∨ v = 6)) from fun q => c1 q.1)]
  refine ⟨fun c1 c3 => by rw [e79, if_pos ⟨c1, c3⟩], fun c1 => ⟨A, by rw [e79, if_neg c1], c, FK_t (FK_tok t) f⟩⟩
theorem tkm_c {k v : Nat} (hk : k = 1 → 1 ≤ v ∧ v < 13) : (tkm 1 k v = 3 ∨ tkm 1 k v = 4 ∨ tkm 1 k v = 5 ∨ tkm 1 k v = 8) = (k = 1 ∧ (v ≤ 3 ∨ v = 6)) := by
  unfold tkm
  apply propext
  (repeat' split) <;> omega
/-- a CPU's line from its number on: the reference -/
theorem r_ofCpu {M : j_M} {T : Nat → Nat} {n s u pl nx k1 v1 pl1 n1 : Nat} (h : RT M T n 1 2 u pl nx) (hu : u ≤ 5) (hs : M 200 16 = nI s) (hs2 : s < 24) (hx1 : LEX T n nx k1 v1 pl1 n1) (b1 : k1 = 1 → 1 ≤ v1 ∧ v1 < 13) : ∃ M1, RT M1 T n 1 k1 v1 pl1 n1 ∧ HK M M1 ∧ M1 206 (4 * s + 1) = nI u ∧ (∀ j, j ≠ 4 * s + 1 → M1 206 j = M 206 j) ∧ (k1 = 1 → v1 ≤ 3 ∨ v1 = 6 → xX12_ofCpu M = xX12_ofCpu_44 (nI (v1 + 2)) M1) ∧ (¬ (k1 = 1 ∧ (v1 ≤ 3 ∨ v1 = 6)) → ∃ B, xX12_ofCpu M = some (nI 0, B) ∧ RF B 1 pl1 ∧ HK M B) := by
  obtain ⟨n_a, _, _⟩ := r_number (sl := 1) (lo := 0) (hi := 5) h (fun q => by omega) (fun _ => by omega) hx1 hs (by omega) (by omega) (by omega) (by omega)
  obtain ⟨M1, e1, r1, k2, p1, p2⟩ := n_a rfl (by omega) hu
  have tc := tkm_c b1
  have tl := tkm_le (f := 1) (fun q => (b1 q).2)
  have st : xX12_ofCpu M = if k1 = 1 ∧ (v1 ≤ 3 ∨ v1 = 6) then xX12_ofCpu_44 (nI (tkm 1 k1 v1)) M1 else (obi (xX12_bad (nI 1) M1) fun v5 M4 => gz v5 (some (v5, M4))) := by
    unfold xX12_ofCpu
    rw [e1, e_obi2, if_neg (by decide), r1.2.2.2.2.2.1, e_oli2]
    simp (disch := omega) only [e_eq]
    by_cases c1 : tkm 1 k1 v1 = 3
    · rw [if_pos c1, if_pos (tc.mp (Or.inl c1))]
    · rw [if_neg c1]
      by_cases c2 : tkm 1 k1 v1 = 4
      · rw [if_pos c2, if_pos (tc.mp (Or.inr (Or.inl c2)))]
      · rw [if_neg c2]
        by_cases c3 : tkm 1 k1 v1 = 5
        · rw [if_pos c3, if_pos (tc.mp (Or.inr (Or.inr (Or.inl c3))))]
        · rw [if_neg c3]
          by_cases c4 : tkm 1 k1 v1 = 8
          · rw [if_pos c4, if_pos (tc.mp (Or.inr (Or.inr (Or.inr c4))))]
          · rw [if_neg c4, if_neg (fun q => by have q2 := tc.mpr q; omega)]
  refine ⟨M1, r1, k2, p1, p2, fun c1 c3 => ?_, fun c => ?_⟩
  · rw [st, if_pos ⟨c1, c3⟩, c1, tkm_1 (by have := b1 c1; omega)]
  · obtain ⟨B, eB, rB, gB⟩ := r_pbad (f := 1) r1.2.2.2.2.2.2.1
    exact ⟨B, by rw [st, if_neg c, eB], rB, HK_t k2 (HK_g gB)⟩
