/-! ===== notes, asksForGood ===== -/
def a_notes (S : a_S) (w c l : Nat) : a_S := sw (sw (sw (sw (sw S 6962 (4 * (S 6961 0 % 100)) (S 1 5)) 6962 (4 * (S 6961 0 % 100) + 1) w) 6962 (4 * (S 6961 0 % 100) + 2) c) 6962 (4 * (S 6961 0 % 100) + 3) l) 6961 0 (S 6961 0 + 1)
theorem q_notes {N : j_M} {S : a_S} {w c l : Nat} (ht : S 6961 0 < 2147483000) : xX12_notes (nI w) (nI c) (nI l) (RS N S) = some (RS N (a_notes S w c l)) := r_notes ht
theorem an_o {S : a_S} {w c l r i : Nat} (h : r ≠ 6961 ∧ r ≠ 6962) : a_notes S w c l r i = S r i := by
  unfold a_notes
  rw [sw_r (by omega), sw_r (by omega), sw_r (by omega), sw_r (by omega), sw_r (by omega)]
theorem RG_free {S : a_S} {r i v : Nat} (h : RG S) (hr : 6800 ≤ r) : RG (sw S r i v) := RG_sw h (by unfold rg; omega)
theorem RG_notes {S : a_S} {w c l : Nat} (h : RG S) : RG (a_notes S w c l) := by
  unfold a_notes
  exact RG_free (RG_free (RG_free (RG_free (RG_free h (by omega)) (by omega)) (by omega)) (by omega)) (by omega)
