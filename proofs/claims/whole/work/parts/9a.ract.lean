/-! ===== an act: the reference ===== -/
theorem r_actA {M : j_M} {T : Nat → Nat} {n v pl p s k1 v1 pl1 n1 : Nat} (h : RT M T n 0 1 v pl p) (hv : v < 5) (hv1 : 1 ≤ v) (hs : M 200 16 = nI s) (hs2 : s < 400) (hx1 : LEX T n p k1 v1 pl1 n1) : ∃ M4, RT M4 T n 0 k1 v1 pl1 n1 ∧ HK M M4 ∧ M4 206 (4 * s) = nI (v - 1) ∧ (∀ j, j ≠ 4 * s → M4 206 j = M 206 j) ∧ (v = 4 → xX12_oneOf M = obi (xX12_number (nI 1) (nI 1) (nI 9) M4) fun v10 M9 => (if v10 = (0 : Int32) then some ((nI 0), M9) else obi (xX12_need (nI 159) M9) fun v12 M11 => (if v12 = (0 : Int32) then some ((nI 0), M11) else some ((nI 1), M11)))) ∧ (v = 1 → xX12_oneOf M = obi (xX12_number (nI 1) (nI 0) (nI 7) M4) fun v6 M5 => (if v6 = (0 : Int32) then some ((nI 0), M5) else xX12_oneOf_97 M5)) ∧ (v = 2 ∨ v = 3 → xX12_oneOf M = obi (xX12_number (nI 1) (nI 0) (nI 7) M4) fun v6 M5 => (if v6 = (0 : Int32) then some ((nI 0), M5) else obi (xX12_number (nI 2) (nI 0) (nI 9999) M5) fun v8 M7 => (if v8 = (0 : Int32) then some ((nI 0), M7) else xX12_oneOf_97 M7))) := by
  have e0 : tkm 0 1 v = v + 2 := by
    unfold tkm
    (repeat' split) <;> omega
  obtain ⟨M2, e2, r2, g2⟩ := r_go h hx1
  have h13 := h.2.2.2.2.2.1
  rw [e0] at h13
  refine ⟨mw M2 206 (4 * s) (nI (v - 1)), RT_w r2, HK_t (HK_g g2) HK_w, mw_at (by omega), fun j hj => by rw [mw_ne hj, g2.1 206 (by omega)], fun c => ?_, fun c => ?_, fun c => ?_⟩
  · unfold xX12_oneOf
    rw [h13, e_oli2]
    simp (disch := omega) only [e_eq]
    rw [if_neg (by omega), e2, e_obv2, g2.2 16 (by omega), hs]
    simp (disch := omega) only [e_gd, e_ix, e_oli2, e_oml2, e_obi2, e_obv2, e_add, e_mul, e_sub, e_eq, e_lt, e_le, e_eq0, e_0eq, e_lt0, e_0lt, e_le0, e_0le, e_m1, e_m1', e_m1lt, Nat.add_assoc, Nat.not_lt_zero, Nat.le_zero_eq]
    rw [if_pos (by omega), show v + 2 - 3 = v - 1 by omega]
  · unfold xX12_oneOf
    rw [h13, e_oli2]
    simp (disch := omega) only [e_eq]
    rw [if_neg (by omega), e2, e_obv2, g2.2 16 (by omega), hs]
    simp (disch := omega) only [e_gd, e_ix, e_oli2, e_oml2, e_obi2, e_obv2, e_add, e_mul, e_sub, e_eq, e_lt, e_le, e_eq0, e_0eq, e_lt0, e_0lt, e_le0, e_0le, e_m1, e_m1', e_m1lt, Nat.add_assoc, Nat.not_lt_zero, Nat.le_zero_eq]
    rw [if_neg (by omega), show v + 2 - 3 = v - 1 by omega]
    simp only [eq_true (show v + 2 = 3 by omega), if_true]
  · unfold xX12_oneOf
    rw [h13, e_oli2]
    simp (disch := omega) only [e_eq]
    rw [if_neg (by omega), e2, e_obv2, g2.2 16 (by omega), hs]
    simp (disch := omega) only [e_gd, e_ix, e_oli2, e_oml2, e_obi2, e_obv2, e_add, e_mul, e_sub, e_eq, e_lt, e_le, e_eq0, e_0eq, e_lt0, e_0lt, e_le0, e_0le, e_m1, e_m1', e_m1lt, Nat.add_assoc, Nat.not_lt_zero, Nat.le_zero_eq]
    rw [if_neg (by omega), show v + 2 - 3 = v - 1 by omega]
    simp only [eq_false (show ¬ v + 2 = 3 by omega), if_false]
def ROW (M M' : j_M) (s v a b : Nat) : Prop := M' 206 (4 * s) = nI (v - 1) ∧ M' 206 (4 * s + 1) = nI a ∧ M' 206 (4 * s + 2) = nI b ∧ (∀ j, j < 4 * s ∨ 4 * s + 2 < j → M' 206 j = M 206 j)
/-- an act of one number -/
theorem r_act1 {M : j_M} {T : Nat → Nat} {n v pl p s k1 v1 pl1 n1 k2 v2 pl2 n2 k3 v3 pl3 n3 : Nat} (h : RT M T n 0 1 v pl p) (hv : v = 1 ∨ v = 4) (hs : M 200 16 = nI s) (hs2 : s < 400) (h0 : M 206 (4 * s + 2) = nI 0) (hx1 : LEX T n p k1 v1 pl1 n1) (hx2 : LEX T n n1 k2 v2 pl2 n2) (hx3 : LEX T n n2 k3 v3 pl3 n3) : ∃ z M', xX12_oneOf M = some (nI z, M') ∧ HK M M' ∧ (k1 = 2 → wlo v ≤ v1 → v1 ≤ whi v → (k2 = 3 → z = 1 ∧ RT M' T n 0 k3 v3 pl3 n3 ∧ ROW M M' s v v1 0) ∧ (k2 ≠ 3 → z = 0 ∧ RF M' 1 pl2)) ∧ (k1 = 2 → ¬ (wlo v ≤ v1 ∧ v1 ≤ whi v) → z = 0 ∧ RF M' 2 pl1) ∧ (k1 ≠ 2 → z = 0 ∧ RF M' 1 pl1) := by
  have hp := h.2.2.2.1
  have b1 := LEX_b hx1 hp
  have b2 := LEX_b hx2 b1.2.2.2.1
  obtain ⟨M4, r4, k4, q1, q2, w4, w1, _⟩ := r_actA h (by omega) (by omega) hs hs2 hx1
  have hs4 : M4 200 16 = nI s := by rw [k4.2 16 (by omega), hs]
  have st : xX12_oneOf M = obi (xX12_number (nI 1) (nI (wlo v)) (nI (whi v)) M4) fun v6 M5 => (if v6 = (0 : Int32) then some ((nI 0), M5) else xX12_oneOf_97 M5) := by
    rcases hv with rfl | rfl
    · exact w1 rfl
    · exact w4 rfl
  have hw : wlo v < 20000 ∧ whi v < 20000 := by
    rcases hv with rfl | rfl <;> decide
  obtain ⟨n_a, n_b, n_c⟩ := r_number (sl := 1) (lo := wlo v) (hi := whi v) r4 b1.2.2.2.2.2.2.2.1 b1.2.2.2.2.2.2.1 hx2 hs4 hs2 (by omega) hw.1 hw.2
  rw [st]
  by_cases c1 : k1 = 2
  · by_cases c2 : wlo v ≤ v1 ∧ v1 ≤ whi v
    · obtain ⟨M5, e5, r5, k5, p1, p2⟩ := n_a c1 c2.1 c2.2
      obtain ⟨d_a, d_b⟩ := r_need (t := 159) r5 (fun q => (b2.2.2.2.2.2.2.2.1 q).2) hx3 (by omega)
      have t9 := (tkm_s (f := 0) (fun q => (b2.2.2.2.2.2.2.2.1 q).2)).1
      rw [e5, e_obi2, if_neg (by decide)]
      unfold xX12_oneOf_97
      by_cases c3 : k2 = 3
      · obtain ⟨M6, e6, r6, g6⟩ := d_a (t9 ▸ c3)
        rw [e6, e_obi2, if_neg (by decide)]
        refine ⟨1, M6, rfl, HK_t k4 (HK_t k5 (HK_g g6)), fun _ _ _ => ⟨fun _ => ⟨rfl, r6, ?_, ?_, ?_, fun j hj => ?_⟩, fun q => absurd c3 q⟩, fun _ q => absurd c2 q, fun q => absurd c1 q⟩
        · rw [g6.1 206 (by omega), p2 _ (by omega), q1]
        · rw [g6.1 206 (by omega), p1]
        · rw [g6.1 206 (by omega), p2 _ (by omega), q2 _ (by omega), h0]
        · rw [g6.1 206 (by omega), p2 _ (by omega), q2 _ (by omega)]
      · obtain ⟨M6, e6, r6, g6⟩ := d_b (fun q => c3 (t9 ▸ q))
        rw [e6, e_obi2, if_pos (by decide)]
        exact ⟨0, M6, rfl, HK_t k4 (HK_t k5 (HK_g g6)), fun _ _ _ => ⟨fun q => absurd q c3, fun _ => ⟨rfl, r6⟩⟩, fun _ q => absurd c2 q, fun q => absurd c1 q⟩
    · obtain ⟨M5, e5, r5, k5⟩ := n_b c1 c2
      rw [e5, e_obi2, if_pos (by decide)]
      exact ⟨0, M5, rfl, HK_t k4 (HK_g k5), fun _ x y => absurd ⟨x, y⟩ c2, fun _ _ => ⟨rfl, r5⟩, fun q => absurd c1 q⟩
  · obtain ⟨M5, e5, r5, k5⟩ := n_c c1
    rw [e5, e_obi2, if_pos (by decide)]
    exact ⟨0, M5, rfl, HK_t k4 (HK_g k5), fun q => absurd q c1, fun q => absurd q c1, fun _ => ⟨rfl, r5⟩⟩
