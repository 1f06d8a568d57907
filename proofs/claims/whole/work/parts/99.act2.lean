/-- an act of two numbers -/
theorem x_act2 {M : j_M} {T : Nat → Nat} {n p v u c s k1 v1 pl1 n1 k2 v2 pl2 n2 k3 v3 pl3 n3 : Nat} (h : CS M T n p) (hC : CST M) (h11 : M 28 11 = nI v) (hv : v < 13) (hse : wse v = s + 1) (hu : u < 64) (hc : M 28 7 = nI c) (hc2 : c < 1000000000) (hx1 : LEX T n p k1 v1 pl1 n1) (hx2 : LEX T n n1 k2 v2 pl2 n2) (hx3 : LEX T n n2 k3 v3 pl3 n3) : ∃ M', xX8_readAct (nI u) M = some M' ∧ AK M M' c ∧ (k1 = 2 → wlo v ≤ v1 → v1 ≤ whi v → (k2 = 2 → v2 ≤ s → (k3 = 3 → CS M' T n n3 ∧ (c < 200 → M' 30 c = nI (v + 16 * v1 + 2048 * v2 + 33554432 * u))) ∧ (k3 ≠ 3 → CF M' 1 pl3)) ∧ (k2 = 2 → ¬ v2 ≤ s → CF M' 2 pl2) ∧ (k2 ≠ 2 → CF M' 1 pl2)) ∧ (k1 = 2 → ¬ (wlo v ≤ v1 ∧ v1 ≤ whi v) → CF M' 2 pl1) ∧ (k1 ≠ 2 → CF M' 1 pl1) := by
  obtain ⟨t1, t2, t3, t4, t5, t6⟩ := w_tab v hv
  have hCv := hC v hv
  obtain ⟨z, M1, e1, f1, g1, g2, g3⟩ := x_number (lo := wlo v) (hi := whi v) h hx1 (by omega) (by omega)
  have hc1 : M1 28 7 = nI c := by rw [f1.2 7 (by omega) (by omega) (by omega), hc]
  have st : xX8_readAct (nI u) M = obi (xX8_readNumber (nI 0) (nI s) M1) fun v9 M8 => xX8_readAct_44 (nI u) (nI v) (nI z) v9 M8 := by
    unfold xX8_readAct
    rw [h11, e_oli2, e_gd (by omega) (by omega), e_ix2 (by omega), hCv.1, t1, e_oli2, e_gd (by omega) (by omega), hCv.2.1, t2, e_oli2, e1, e_obi2, e_gd (by omega) (by omega), f1.1 302 (by omega), hCv.2.2, t3, hse, oI_s, e_oli2]
    rw [if_neg (by intro q; have q2 := congrArg Int32.toInt q; rw [nI_toInt (by omega), show (-1 : Int32).toInt = -1 by decide] at q2; omega), e_gd (by omega) (by omega), e_oli2]
  rw [st]
  by_cases c1 : k1 = 2
  · by_cases c2 : wlo v ≤ v1 ∧ v1 ≤ whi v
    · obtain ⟨rfl, q⟩ := g1 c1 c2.1 c2.2
      obtain ⟨y, M2, e2, f2, i1, i2, i3⟩ := x_number (lo := 0) (hi := s) q hx2 (by omega) (by omega)
      have hc3 : M2 28 7 = nI c := by rw [f2.2 7 (by omega) (by omega) (by omega), hc1]
      rw [e2, e_obi2]
      by_cases d1 : k2 = 2
      · by_cases d2 : v2 ≤ s
        · obtain ⟨rfl, q2⟩ := i1 d1 (by omega) d2
          obtain ⟨M3, e3, a3, b1, b2⟩ := x_44S (u := u) (v := v) (a := z) (b := y) q2 hx3 hc3 hc2 (by omega) (by omega) (by omega) hu
          exact ⟨M3, e3, AK_f f1 (AK_f f2 a3), fun _ _ _ => ⟨fun _ _ => ⟨b1, b2⟩, fun _ q => absurd d2 q, fun q => absurd d1 q⟩, fun _ q => absurd c2 q, fun q => absurd c1 q⟩
        · obtain ⟨rfl, q2⟩ := i2 d1 (fun q => d2 q.2)
          obtain ⟨M3, e3, q3, a3⟩ := x_44F (u := u) (v := v) (a := z) (b := 0) q2 (by omega) (by omega) hc3 hc2 (by omega) (by omega) (by omega) hu
          exact ⟨M3, e3, AK_f f1 (AK_f f2 a3), fun _ _ _ => ⟨fun _ q => absurd q d2, fun _ _ => q3, fun q => absurd d1 q⟩, fun _ q => absurd c2 q, fun q => absurd c1 q⟩
      · obtain ⟨rfl, q2⟩ := i3 d1
        obtain ⟨M3, e3, q3, a3⟩ := x_44F (u := u) (v := v) (a := z) (b := 0) q2 (by omega) (by omega) hc3 hc2 (by omega) (by omega) (by omega) hu
        exact ⟨M3, e3, AK_f f1 (AK_f f2 a3), fun _ _ _ => ⟨fun q => absurd q d1, fun q => absurd q d1, fun _ => q3⟩, fun _ q => absurd c2 q, fun q => absurd c1 q⟩
    · obtain ⟨rfl, q⟩ := g2 c1 c2
      rw [x_numberF q (by omega) (by omega), e_obi2]
      obtain ⟨M2, e2, q2, a2⟩ := x_44F (u := u) (v := v) (a := wlo v) (b := 0) q (by omega) (by omega) hc1 hc2 (by omega) (by omega) (by omega) hu
      exact ⟨M2, e2, AK_f f1 a2, fun _ x y => absurd ⟨x, y⟩ c2, fun _ _ => q2, fun q => absurd c1 q⟩
  · obtain ⟨rfl, q⟩ := g3 c1
    rw [x_numberF q (by omega) (by omega), e_obi2]
    obtain ⟨M2, e2, q2, a2⟩ := x_44F (u := u) (v := v) (a := wlo v) (b := 0) q (by omega) (by omega) hc1 hc2 (by omega) (by omega) (by omega) hu
    exact ⟨M2, e2, AK_f f1 a2, fun q => absurd q c1, fun q => absurd q c1, fun _ => q2⟩
