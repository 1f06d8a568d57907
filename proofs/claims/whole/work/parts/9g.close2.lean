theorem x_closeL {M : j_M} {d c st tm E : Nat} (hd : M 28 8 = nI (d + 1)) (hd3 : d < 3) (hc : M 28 7 = nI c) (h31 : M 31 d = nI st) (h32 : M 32 d = nI tm) (hst : st ≤ c) (htm : 1 ≤ tm) (hEe : E = st + (c - st) * tm) (hE : E < 1000000000) : ∃ M', xX8_closeLoop M = some M' ∧ M' 28 7 = nI E ∧ M' 28 8 = nI d ∧ (∀ x, x ≠ 28 → x ≠ 30 → M' x = M x) ∧ (∀ j, j ≠ 7 → j ≠ 8 → M' 28 j = M 28 j) ∧ (∀ j, j < c → M' 30 j = M 30 j) ∧ (∀ j, c ≤ j → j < E → j < 200 → M' 30 j = M' 30 (j - (c - st))) := by
  have hge : c ≤ E := by
    have : (c - st) * 1 ≤ (c - st) * tm := Nat.mul_le_mul_left _ htm
    omega
  have hL0 : c - st = 0 → E = c := by
    intro q
    rw [hEe, q, Nat.zero_mul]
    omega
  have s1 : xX8_closeLoop M = xX8_closeLoop_47 fu (nI (c - st)) (nI E) (nI c) (mw M 28 8 (nI d)) := by
    unfold xX8_closeLoop
    rw [hd, e_oli2, e_sub (by omega), show d + 1 - 1 = d by omega, e_oml2, mw_at (by omega), e_oli2, e_gd (by omega) (by omega), e_ix2 (by omega), mw_oth (by omega), h31, e_oli2, mw_ne (by omega), hc, e_oli2, e_oli2, e_gd (by omega) (by omega), e_ix2 (by omega), mw_oth (by omega), h32, e_oli2, e_oli2, e_sub hst, e_mul, e_add, ← hEe]
  obtain ⟨e0, q1, q2, q3⟩ : ∃ e0, e0 ≤ E ∧ e0 ≤ 200 ∧ (e0 = E ∨ e0 = 200) := by
    by_cases q : E ≤ 200
    · exact ⟨E, by omega, q, Or.inl rfl⟩
    · exact ⟨200, by omega, by omega, Or.inr rfl⟩
  clear hEe
  obtain ⟨M', e1, r1, r2, r3, r4, r5⟩ := x_cl47 (k := 999999 - (e0 - c)) (L := c - st) hE q1 q2 q3 (e0 - c) c (mw M 28 8 (nI d)) (by omega) (by omega) (fun _ => by omega) (fun _ => by omega)
  rw [show 999999 - (e0 - c) + (e0 - c) + 1 = fu by unfold fu; omega] at e1
  refine ⟨M', by rw [s1, e1], r1, by rw [r3 8 (by omega), mw_at (by omega)], fun x p q => by rw [r2 x p q, mw_oth p], fun j p q => by rw [r3 j p, mw_ne q], fun j p => by rw [r4 j (Or.inl p), mw_oth (by omega)], fun j p q w => r5 j p (by omega)⟩
