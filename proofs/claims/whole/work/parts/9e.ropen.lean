/-! ===== a loop opened: the reference ===== -/
theorem r_open {M : j_M} {T : Nat → Nat} {n pl p d s k1 v1 pl1 n1 k2 v2 pl2 n2 k3 v3 pl3 n3 : Nat} (h : RT M T n 0 1 5 pl p) (hd : M 200 17 = nI d) (hd3 : d < 3) (hs : M 200 16 = nI s) (hs2 : s < 400) (hx1 : LEX T n p k1 v1 pl1 n1) (hx2 : LEX T n n1 k2 v2 pl2 n2) (hx3 : LEX T n n2 k3 v3 pl3 n3) : ∃ z M', xX12_opens M = some (nI z, M') ∧ (k1 = 2 → 1 ≤ v1 → v1 ≤ 9 → (k2 = 4 → ∃ M6, z = 1 ∧ M' = mw (mw M6 207 d (nI s)) 200 17 (nI (d + 1)) ∧ RT M6 T n 0 k3 v3 pl3 n3 ∧ HK M M6 ∧ M6 206 (4 * s) = nI 4 ∧ M6 206 (4 * s + 1) = nI v1 ∧ (∀ j, j < 4 * s ∨ 4 * s + 1 < j → M6 206 j = M 206 j)) ∧ (k2 ≠ 4 → z = 0 ∧ RF M' 1 pl2 ∧ HK M M')) ∧ (k1 = 2 → ¬ (1 ≤ v1 ∧ v1 ≤ 9) → z = 0 ∧ RF M' 2 pl1 ∧ HK M M') ∧ (k1 ≠ 2 → z = 0 ∧ RF M' 1 pl1 ∧ HK M M') := by
  have hp := h.2.2.2.1
  have b1 := LEX_b hx1 hp
  have b2 := LEX_b hx2 b1.2.2.2.1
  obtain ⟨M4, e4, r4, g4⟩ := r_go (RT_w (i := 4 * s) (y := nI 4) h) hx1
  have k4 : HK M M4 := HK_t HK_w (HK_g g4)
  have hs4 : M4 200 16 = nI s := by rw [k4.2 16 (by omega), hs]
  have q1 : M4 206 (4 * s) = nI 4 := by rw [g4.1 206 (by omega), mw_at (by omega)]
  have q2 : ∀ j, j ≠ 4 * s → M4 206 j = M 206 j := fun j hj => by rw [g4.1 206 (by omega), mw_ne hj]
  obtain ⟨n_a, n_b, n_c⟩ := r_number (sl := 1) (lo := 1) (hi := 9) r4 b1.2.2.2.2.2.2.2.1 b1.2.2.2.2.2.2.1 hx2 hs4 hs2 (by decide) (by decide) (by decide)
  have w2 := b2.2.2.2.2.2.2.2.1
  clear b1 b2
  unfold xX12_opens
  rw [hd, e_oli2]
  simp (disch := omega) only [e_eq]
  rw [if_neg (by omega), hs, e_oli2, e_mul, e_gd (by omega) (by omega), e_ix2 (by omega), e_oml2, e4, e_obv2]
  by_cases c1 : k1 = 2
  · by_cases c2 : 1 ≤ v1 ∧ v1 ≤ 9
    · obtain ⟨M5, e5, r5, k5, p1, p2⟩ := n_a c1 c2.1 c2.2
      obtain ⟨d_a, d_b⟩ := r_need (t := 223) r5 (fun q => (w2 q).2) hx3 (by omega)
      have t9 := (tkm_s (f := 0) (fun q => (w2 q).2)).2.1
      rw [e5, e_obi2, if_neg (by decide)]
      by_cases c3 : k2 = 4
      · obtain ⟨M6, e6, r6, g6⟩ := d_a (t9 ▸ c3)
        have k6 : HK M M6 := HK_t k4 (HK_t k5 (HK_g g6))
        rw [e6, e_obi2, if_neg (by decide), k6.2 17 (by omega), hd, e_oli2, k6.2 16 (by omega), hs, e_oli2, e_gd (by omega) (by omega), e_ix2 (by omega), e_oml2, mw_oth (by omega), k6.2 17 (by omega), hd, e_oli2, e_oml2, e_add]
        refine ⟨1, _, rfl, fun _ _ _ => ⟨fun _ => ⟨M6, rfl, rfl, r6, k6, ?_, ?_, fun j hj => ?_⟩, fun q => absurd c3 q⟩, fun _ q => absurd c2 q, fun q => absurd c1 q⟩
        · rw [g6.1 206 (by omega), p2 _ (by omega), q1]
        · rw [g6.1 206 (by omega), p1]
        · rw [g6.1 206 (by omega), p2 _ (by omega), q2 _ (by omega)]
      · obtain ⟨M6, e6, r6, g6⟩ := d_b (fun q => c3 (t9 ▸ q))
        rw [e6, e_obi2, if_pos (by decide)]
        exact ⟨0, M6, rfl, fun _ _ _ => ⟨fun q => absurd q c3, fun _ => ⟨rfl, r6, HK_t k4 (HK_t k5 (HK_g g6))⟩⟩, fun _ q => absurd c2 q, fun q => absurd c1 q⟩
    · obtain ⟨M5, e5, r5, k5⟩ := n_b c1 c2
      rw [e5, e_obi2, if_pos (by decide)]
      exact ⟨0, M5, rfl, fun _ x y => absurd ⟨x, y⟩ c2, fun _ _ => ⟨rfl, r5, HK_t k4 (HK_g k5)⟩, fun q => absurd c1 q⟩
  · obtain ⟨M5, e5, r5, k5⟩ := n_c c1
    rw [e5, e_obi2, if_pos (by decide)]
    exact ⟨0, M5, rfl, fun q => absurd q c1, fun q => absurd q c1, fun _ => ⟨rfl, r5, HK_t k4 (HK_g k5)⟩⟩
