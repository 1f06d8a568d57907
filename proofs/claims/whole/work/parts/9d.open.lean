/-! ===== a loop opened: the class ===== -/
def LK (M M' : j_M) (d : Nat) : Prop := M' 28 8 = nI (d + 1) ∧ (∀ x, x ≠ 28 → x ≠ 31 → x ≠ 32 → M' x = M x) ∧ (∀ j, j < 8 → j ≠ 5 → j ≠ 6 → M' 28 j = M 28 j) ∧ (∀ j, j ≠ d → M' 31 j = M 31 j ∧ M' 32 j = M 32 j)
theorem x_openE {M M1 M2 : j_M} {d c z : Nat} (hd : M 28 8 = nI d) (hd3 : d < 3) (hc : M 28 7 = nI c) (e1 : xX8_readNumber (nI 1) (nI 9) M = some (nI z, M1)) (f1 : FK M M1) (e2 : xX8_expect (nI 4) M1 = some M2) (f2 : FK M1 M2) : ∃ M', xX8_openLoop M = some M' ∧ LK M M' d ∧ M' 31 d = nI c ∧ M' 32 d = nI z ∧ (∀ j, j ≠ 8 → M' 28 j = M2 28 j) ∧ M' 29 = M2 29 := by
  have d2 : M2 28 8 = nI d := by rw [f2.2 8 (by omega) (by omega) (by omega), f1.2 8 (by omega) (by omega) (by omega), hd]
  have c2 : M2 28 7 = nI c := by rw [f2.2 7 (by omega) (by omega) (by omega), f1.2 7 (by omega) (by omega) (by omega), hc]
  unfold xX8_openLoop
  rw [hd, e_oli2]
  simp (disch := omega) only [e_lt]
  rw [if_pos hd3, e1, e_obi2, e2, e_obv2, d2, e_oli2, c2, e_oli2, e_gd (by omega) (by omega), e_ix2 (by omega), e_oml2, mw_oth (by omega), d2, e_oli2, e_gd (by omega) (by omega), e_ix2 (by omega), e_oml2, mw_oth (by omega), mw_oth (by omega), d2, e_oli2, e_oml2, e_add]
  refine ⟨_, rfl, ⟨mw_at (by omega), fun x a b g => ?_, fun j a b g => ?_, fun j hj => ⟨?_, ?_⟩⟩, ?_, ?_, fun j hj => ?_, ?_⟩
  · rw [mw_oth a, mw_oth g, mw_oth b, f2.1 x a, f1.1 x a]
  · rw [mw_ne (by omega), mw_oth (by omega), mw_oth (by omega), f2.2 j (by omega) b g, f1.2 j (by omega) b g]
  · rw [mw_oth (by omega), mw_oth (by omega), mw_ne hj, f2.1 31 (by omega), f1.1 31 (by omega)]
  · rw [mw_oth (by omega), mw_ne hj, mw_oth (by omega), f2.1 32 (by omega), f1.1 32 (by omega)]
  · rw [mw_oth (by omega), mw_oth (by omega), mw_at (by omega)]
  · rw [mw_oth (by omega), mw_at (by omega)]
  · rw [mw_ne hj, mw_oth (by omega), mw_oth (by omega)]
  · rw [mw_oth (by omega), mw_oth (by omega), mw_oth (by omega)]
theorem CS_l {M2 M' : j_M} {T : Nat → Nat} {n p : Nat} (h : CS M2 T n p) (h1 : ∀ j, j ≠ 8 → M' 28 j = M2 28 j) (h2 : M' 29 = M2 29) : CS M' T n p :=
  ⟨⟨h.1.1, by rw [h1 4 (by omega)]; exact h.1.2.1, fun i hi => by rw [h2]; exact h.1.2.2 i hi⟩, by rw [h1 9 (by omega)]; exact h.2.1, by rw [h1 5 (by omega)]; exact h.2.2.1, h.2.2.2.1, by rw [h1 6 (by omega)]; exact h.2.2.2.2⟩
theorem CF_l {M2 M' : j_M} {f pl : Nat} (h : CF M2 f pl) (h1 : ∀ j, j ≠ 8 → M' 28 j = M2 28 j) : CF M' f pl :=
  ⟨by rw [h1 5 (by omega)]; exact h.1, by rw [h1 6 (by omega)]; exact h.2⟩
theorem x_open {M : j_M} {T : Nat → Nat} {n p d c k1 v1 pl1 n1 k2 v2 pl2 n2 : Nat} (h : CS M T n p) (hd : M 28 8 = nI d) (hd3 : d < 3) (hc : M 28 7 = nI c) (hx1 : LEX T n p k1 v1 pl1 n1) (hx2 : LEX T n n1 k2 v2 pl2 n2) : ∃ M', xX8_openLoop M = some M' ∧ LK M M' d ∧ M' 31 d = nI c ∧ (k1 = 2 → 1 ≤ v1 → v1 ≤ 9 → (k2 = 4 → CS M' T n n2 ∧ M' 32 d = nI v1) ∧ (k2 ≠ 4 → CF M' 1 pl2)) ∧ (k1 = 2 → ¬ (1 ≤ v1 ∧ v1 ≤ 9) → CF M' 2 pl1) ∧ (k1 ≠ 2 → CF M' 1 pl1) := by
  obtain ⟨z, M1, e1, f1, g1, g2, g3⟩ := x_number (lo := 1) (hi := 9) h hx1 (by omega) (by omega)
  by_cases c1 : k1 = 2
  · by_cases c2 : 1 ≤ v1 ∧ v1 ≤ 9
    · obtain ⟨rfl, q⟩ := g1 c1 c2.1 c2.2
      obtain ⟨M2, e2, f2, i1, i2⟩ := x_expect (K := 4) q hx2 (by omega)
      obtain ⟨M', e3, l3, a3, b3, r3, s3⟩ := x_openE hd hd3 hc e1 f1 e2 f2
      exact ⟨M', e3, l3, a3, fun _ _ _ => ⟨fun w => ⟨CS_l (i1 w) r3 s3, b3⟩, fun w => CF_l (i2 w) r3⟩, fun _ w => absurd c2 w, fun w => absurd c1 w⟩
    · obtain ⟨rfl, q⟩ := g2 c1 c2
      obtain ⟨M', e3, l3, a3, b3, r3, s3⟩ := x_openE hd hd3 hc e1 f1 (x_expectF q (by decide) (by decide)) FK_r
      exact ⟨M', e3, l3, a3, fun _ x y => absurd ⟨x, y⟩ c2, fun _ _ => CF_l q r3, fun w => absurd c1 w⟩
  · obtain ⟨rfl, q⟩ := g3 c1
    obtain ⟨M', e3, l3, a3, b3, r3, s3⟩ := x_openE hd hd3 hc e1 f1 (x_expectF q (by decide) (by decide)) FK_r
    exact ⟨M', e3, l3, a3, fun w => absurd w c1, fun w => absurd w c1, fun _ => CF_l q r3⟩
