/-! ===== a loop closed: the reference ===== -/
theorem RT_d {M : j_M} {T : Nat → Nat} {n f k v pl nx i : Nat} {y : Int32} (h : RT M T n f k v pl nx) (hi : i = 16 ∨ i = 17) : RT (mw M 200 i y) T n f k v pl nx := by
  obtain ⟨⟨a1, a2, a3⟩, h2, h3, h4, h5, h6, h7, h8⟩ := h
  refine ⟨⟨a1, ?_, fun j hj => ?_⟩, ?_, h3, h4, ?_, ?_, ?_, fun q => ?_⟩
  · rw [mw_ne (by omega)]; exact a2
  · rw [mw_oth (by omega)]; exact a3 j hj
  · rw [mw_ne (by omega)]; exact h2
  · rw [mw_ne (by omega)]; exact h5
  · rw [mw_ne (by omega)]; exact h6
  · rw [mw_ne (by omega)]; exact h7
  · rw [mw_ne (by omega)]; exact h8 q
theorem r_close {M : j_M} {T : Nat → Nat} {n pl p d o s k v k1 v1 pl1 n1 : Nat} (h : RT M T n 0 k v pl p) (hd : M 200 17 = nI (d + 1)) (hd3 : d < 3) (ho : M 207 d = nI o) (ho2 : o < 400) (hs : M 200 16 = nI s) (hx1 : LEX T n p k1 v1 pl1 n1) : ∃ M', xX12_closes M = some (nI 1, M') ∧ RT M' T n 0 k1 v1 pl1 n1 ∧ GK (mw (mw M 200 17 (nI d)) 206 (4 * o + 3) (nI s)) M' := by
  obtain ⟨M4, e4, r4, g4⟩ := r_go (RT_w (i := 4 * o + 3) (y := nI s) (RT_d (i := 17) (y := nI d) h (Or.inr rfl))) hx1
  refine ⟨M4, ?_, r4, g4⟩
  unfold xX12_closes
  rw [hd, e_oli2, if_neg (by rw [e_eq0 (by omega)]; omega), e_oli2, e_sub (by omega), show d + 1 - 1 = d by omega, e_oml2, mw_at (by omega), e_oli2, e_gd (by omega) (by omega), e_ix2 (by omega), mw_oth (by omega), ho, e_oli2, mw_ne (by omega), hs, e_oli2, e_mul, e_add, e_gd (by omega) (by omega), e_ix2 (by omega), e_oml2, e4, e_obv2]
