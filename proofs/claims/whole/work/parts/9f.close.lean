/-! ===== a loop closed: the class ===== -/
theorem x_cl47 {k L E e0 : Nat} (hE : E < 1000000000) (h0 : e0 ≤ E) (h2 : e0 ≤ 200) (h3 : e0 = E ∨ e0 = 200) : ∀ (m i : Nat) (M : j_M), L ≤ i → i < 1000000000 → (m = 0 → e0 ≤ i) → (m ≠ 0 → i + m = e0 ∧ 1 ≤ L) → ∃ M', xX8_closeLoop_47 (k + m + 1) (nI L) (nI E) (nI i) M = some M' ∧ M' 28 7 = nI E ∧ (∀ x, x ≠ 28 → x ≠ 30 → M' x = M x) ∧ (∀ j, j ≠ 7 → M' 28 j = M 28 j) ∧ (∀ j, j < i ∨ e0 ≤ j → M' 30 j = M 30 j) ∧ (∀ j, i ≤ j → j < e0 → M' 30 j = M' 30 (j - L))
  | 0, i, M, hL, hi, a, b => by
    have a0 := a rfl
    have st : xX8_closeLoop_47 (k + 0 + 1) (nI L) (nI E) (nI i) M = some (mw M 28 7 (nI E)) := by
      rw [show k + 0 + 1 = k + 1 from rfl, xX8_closeLoop_47.eq_2]
      unfold xX8_closeLoop_83
      simp (disch := omega) only [e_le, e_oml2]
      by_cases c : E ≤ i
      · rw [if_pos c]
      · rw [if_neg c, if_pos (by omega)]
    exact ⟨_, st, mw_at (by omega), fun x h _ => mw_oth h, fun j h => mw_ne h, fun j _ => by rw [mw_oth (by omega)], fun j h1 h2 => by omega⟩
  | m + 1, i, M, hL, hi, a, b => by
    obtain ⟨b1, b2⟩ := b (by omega)
    obtain ⟨M', e1, r1, r2, r3, r4, r5⟩ := x_cl47 (k := k) (L := L) hE h0 h2 h3 m (i + 1) (mw M 30 i (M 30 (i - L))) (by omega) (by omega) (fun _ => by omega) (fun _ => by omega)
    refine ⟨M', ?_, r1, fun x p q => ?_, fun j p => ?_, fun j p => ?_, fun j p q => ?_⟩
    · rw [show k + (m + 1) + 1 = (k + m + 1) + 1 by omega, xX8_closeLoop_47.eq_2]
      simp (disch := omega) only [e_gd, e_ix, e_oli2, e_oml2, e_obi2, e_obv2, e_add, e_mul, e_sub, e_eq, e_lt, e_le, e_eq0, e_0eq, e_lt0, e_0lt, e_le0, e_0le, e_m1, e_m1', e_m1lt, Nat.add_assoc, Nat.not_lt_zero, Nat.le_zero_eq]
      rw [if_neg (by omega), if_neg (by omega)]
      exact e1
    · rw [r2 x p q, mw_oth q]
    · rw [r3 j p, mw_oth (by omega)]
    · rw [r4 j (by omega), mw_ne (by omega)]
    · by_cases c : j = i
      · subst c
        rw [r4 j (by omega), mw_at (by omega), r4 (j - L) (by omega), mw_ne (by omega)]
      · exact r5 j (by omega) q
