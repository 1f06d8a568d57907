/-- an act of two numbers -/
theorem r_act2 {M : j_M} {T : Nat → Nat} {n v pl p s k1 v1 pl1 n1 k2 v2 pl2 n2 k3 v3 pl3 n3 k4 v4 pl4 n4 : Nat} (h : RT M T n 0 1 v pl p) (hv : v = 2 ∨ v = 3) (hs : M 200 16 = nI s) (hs2 : s < 400) (hx1 : LEX T n p k1 v1 pl1 n1) (hx2 : LEX T n n1 k2 v2 pl2 n2) (hx3 : LEX T n n2 k3 v3 pl3 n3) (hx4 : LEX T n n3 k4 v4 pl4 n4) : ∃ z M', xX12_oneOf M = some (nI z, M') ∧ HK M M' ∧ (k1 = 2 → wlo v ≤ v1 → v1 ≤ whi v → (k2 = 2 → v2 ≤ 9999 → (k3 = 3 → z = 1 ∧ RT M' T n 0 k4 v4 pl4 n4 ∧ ROW M M' s v v1 v2) ∧ (k3 ≠ 3 → z = 0 ∧ RF M' 1 pl3)) ∧ (k2 = 2 → ¬ v2 ≤ 9999 → z = 0 ∧ RF M' 2 pl2) ∧ (k2 ≠ 2 → z = 0 ∧ RF M' 1 pl2)) ∧ (k1 = 2 → ¬ (wlo v ≤ v1 ∧ v1 ≤ whi v) → z = 0 ∧ RF M' 2 pl1) ∧ (k1 ≠ 2 → z = 0 ∧ RF M' 1 pl1) := by
  have hp := h.2.2.2.1
  have b1 := LEX_b hx1 hp
  have b2 := LEX_b hx2 b1.2.2.2.1
  have b3 := LEX_b hx3 b2.2.2.2.1
  obtain ⟨M4, r4, kk4, q1, q2, _, _, w2⟩ := r_actA h (by omega) (by omega) hs hs2 hx1
  have hs4 : M4 200 16 = nI s := by rw [kk4.2 16 (by omega), hs]
  have st : xX12_oneOf M = obi (xX12_number (nI 1) (nI (wlo v)) (nI (whi v)) M4) fun v6 M5 => (if v6 = (0 : Int32) then some ((nI 0), M5) else obi (xX12_number (nI 2) (nI 0) (nI 9999) M5) fun v8 M7 => (if v8 = (0 : Int32) then some ((nI 0), M7) else xX12_oneOf_97 M7)) := by
    rw [w2 hv]
    rcases hv with rfl | rfl <;> rfl
  have hw : wlo v < 20000 ∧ whi v < 20000 := by
    rcases hv with rfl | rfl <;> decide
  obtain ⟨n_a, n_b, n_c⟩ := r_number (sl := 1) (lo := wlo v) (hi := whi v) r4 b1.2.2.2.2.2.2.2.1 b1.2.2.2.2.2.2.1 hx2 hs4 hs2 (by omega) hw.1 hw.2
  rw [st]
  by_cases c1 : k1 = 2
  · by_cases c2 : wlo v ≤ v1 ∧ v1 ≤ whi v
    · obtain ⟨M5, e5, r5, k5, p1, p2⟩ := n_a c1 c2.1 c2.2
      have hs5 : M5 200 16 = nI s := by rw [k5.2 16 (by omega), hs4]
      obtain ⟨m_a, m_b, m_c⟩ := r_number (sl := 2) (lo := 0) (hi := 9999) r5 b2.2.2.2.2.2.2.2.1 b2.2.2.2.2.2.2.1 hx3 hs5 hs2 (by omega) (by omega) (by omega)
      rw [e5, e_obi2, if_neg (by decide)]
      by_cases d1 : k2 = 2
      · by_cases d2 : v2 ≤ 9999
        · obtain ⟨M7, e7, r7, k7, s1, s2⟩ := m_a d1 (by omega) d2
          obtain ⟨d_a, d_b⟩ := r_need (t := 159) r7 (fun q => (b3.2.2.2.2.2.2.2.1 q).2) hx4 (by omega)
          have t9 := (tkm_s (f := 0) (fun q => (b3.2.2.2.2.2.2.2.1 q).2)).1
          rw [e7, e_obi2, if_neg (by decide)]
          unfold xX12_oneOf_97
          by_cases c3 : k3 = 3
          · obtain ⟨M6, e6, r6, g6⟩ := d_a (t9 ▸ c3)
            rw [e6, e_obi2, if_neg (by decide)]
            refine ⟨1, M6, rfl, HK_t kk4 (HK_t k5 (HK_t k7 (HK_g g6))), fun _ _ _ => ⟨fun _ _ => ⟨fun _ => ⟨rfl, r6, ?_, ?_, ?_, fun j hj => ?_⟩, fun q => absurd c3 q⟩, fun _ q => absurd d2 q, fun q => absurd d1 q⟩, fun _ q => absurd c2 q, fun q => absurd c1 q⟩
            · rw [g6.1 206 (by omega), s2 _ (by omega), p2 _ (by omega), q1]
            · rw [g6.1 206 (by omega), s2 _ (by omega), p1]
            · rw [g6.1 206 (by omega), s1]
            · rw [g6.1 206 (by omega), s2 _ (by omega), p2 _ (by omega), q2 _ (by omega)]
          · obtain ⟨M6, e6, r6, g6⟩ := d_b (fun q => c3 (t9 ▸ q))
            rw [e6, e_obi2, if_pos (by decide)]
            exact ⟨0, M6, rfl, HK_t kk4 (HK_t k5 (HK_t k7 (HK_g g6))), fun _ _ _ => ⟨fun _ _ => ⟨fun q => absurd q c3, fun _ => ⟨rfl, r6⟩⟩, fun _ q => absurd d2 q, fun q => absurd d1 q⟩, fun _ q => absurd c2 q, fun q => absurd c1 q⟩
        · obtain ⟨M7, e7, r7, k7⟩ := m_b d1 (fun q => d2 q.2)
          rw [e7, e_obi2, if_pos (by decide)]
          exact ⟨0, M7, rfl, HK_t kk4 (HK_t k5 (HK_g k7)), fun _ _ _ => ⟨fun _ q => absurd q d2, fun _ _ => ⟨rfl, r7⟩, fun q => absurd d1 q⟩, fun _ q => absurd c2 q, fun q => absurd c1 q⟩
      · obtain ⟨M7, e7, r7, k7⟩ := m_c d1
        rw [e7, e_obi2, if_pos (by decide)]
        exact ⟨0, M7, rfl, HK_t kk4 (HK_t k5 (HK_g k7)), fun _ _ _ => ⟨fun q => absurd q d1, fun q => absurd q d1, fun _ => ⟨rfl, r7⟩⟩, fun _ q => absurd c2 q, fun q => absurd c1 q⟩
    · obtain ⟨M5, e5, r5, k5⟩ := n_b c1 c2
      rw [e5, e_obi2, if_pos (by decide)]
      exact ⟨0, M5, rfl, HK_t kk4 (HK_g k5), fun _ x y => absurd ⟨x, y⟩ c2, fun _ _ => ⟨rfl, r5⟩, fun q => absurd c1 q⟩
  · obtain ⟨M5, e5, r5, k5⟩ := n_c c1
    rw [e5, e_obi2, if_pos (by decide)]
    exact ⟨0, M5, rfl, HK_t kk4 (HK_g k5), fun q => absurd q c1, fun q => absurd q c1, fun _ => ⟨rfl, r5⟩⟩
