/-! ===== a loop opened: the class ===== -/
def LK (M M' : j_M) (d : Nat) : Prop := M' 28 8 = nI (d + 1) ∧ (∀ x, x ≠ 28 → x ≠ 31 → x ≠ 32 → M' x = M x) ∧ (∀ j, j < 8 → j ≠ 5 → j ≠ 6 → M' 28 j = M 28 j) ∧ (∀ j, j ≠ d → M' 31 j = M 31 j ∧ M' 32 j = M 32 j)
theorem x_openE {M M1 M2 : j_M} {d c z : Nat} (hd : M 28 8 = nI d) (hd3 : d < 3) (hc : M 28 7 = nI c) (e1 : xX8_readNumber (nI 1) (nI 9) M = some (nI z, M1)) (f1 : FK M M1) (e2 : xX8_expect (nI 4) M1 = some M2) (f2 : FK M1 M2) : ∃ M', xX8_openLoop M = some M' ∧ LK M M' d ∧ M' 31 d = nI c ∧ M' 32 d = nI z ∧ (∀ j, j ≠ 8 → M' 28 j = M2 28 j) ∧ M' 29 = M2 29 := by
  have d2 : M2 28 8 = nI d := by rw [f2.2 8 (by omega) (by omega) (by omega), f1.2 8 (by omega) (by omega) (by omega), hd]
  have c2 : M2 28 7 = nI c := by rw [f2.2 7 (by omega) (by omega) (by omega), f1.2 7 (by omega) (by omega) (by omega), hc]
  unfold xX8_openLoop
  rw [hd, e_oli2]
  simp (disch := omega) only [e_lt]
  rw [if_pos hd3, e1, e_obi2, e2, e_obv2, d2, e_oli2, c2, e_oli2, e_gd (by omega) (by omega), e_ix2 (by omega), e_oml2, mw_oth (by omega), d2, e_oli2, e_gd (by omega) (by omega), e_ix2 (by omega), e_oml2, mw_oth (by omega), mw_oth (by omega), d2, e_oli2, e_oml2, e_add]
  refine ⟨_, rfl, ⟨mw_at (by omega), fun x a b g => ?_, fun j a b g => ?_, fun j hj => ⟨?_, ?_⟩⟩, ?_, ?_, fun j hj => ?_, ?_⟩
  · rw [mw_oth a, mw_oth g, mw_oth b, f2.1 x a, f1.1 x a]
  · rw [mw_ne (by omega), mw_oth (by omega), mw_oth (by omega), f2.2 j (by omega) b g, f1.2 j (by omega) b g]
  · rw [mw_oth (by omega), mw_oth (by omega), mw_ne hj, f2.1 31 (by omega), f1.1 31 (by omega)]
  · rw [mw_oth (by omega), mw_ne hj, mw_oth (by omega), f2.1 32 (by omega), f1.1 32 (by omega)]
  · rw [mw_oth (by omega), mw_oth (by omega), mw_at (by omega)]
  · rw [mw_oth (by omega), mw_at (by omega)]
  · rw [mw_ne hj, mw_oth (by omega), mw_oth (by omega)]
  · rw [mw_oth (by omega), mw_oth (by omega), mw_oth (by omega)]
