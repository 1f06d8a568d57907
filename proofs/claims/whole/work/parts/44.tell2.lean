/-! ===== tellsAll as a whole; what it leaves ===== -/
theorem r_tellsAll {N : j_M} {S : a_S} {c k l wh : Nat} (h : RG S) (h1 : 1 ≤ S 1 0) (hq : S 1 7 + 7 ≤ 240) (hc : c < 6) (hk : k < 6) (hl : l < 8) (hw : wh < 4) : xX12_tellsAll (nI c) (nI k) (nI l) (nI wh) (RS N S) = some (RS N (a_tells c k l wh 7 0 S)) := by
  unfold xX12_tellsAll
  rw [fu_s 8 (by omega), show 1000000 - 8 + 8 = 999992 + 7 + 1 by omega]
  exact r_tells hc hk hl hw 7 999992 0 S h h1 hq (by omega)
theorem at_o {c k l wh r i : Nat} (h : r ≠ 586 ∧ r ≠ 1 ∧ r ≠ 6814) : ∀ (m to : Nat) (S : a_S), a_tells c k l wh m to S r i = S r i
  | 0, _, _ => rfl
  | m + 1, to, S => by
    unfold a_tells
    rw [at_o h m]
    split
    · rw [as_o h]
    · rfl
theorem at_1 {c k l wh i : Nat} (h : i ≠ 7) : ∀ (m to : Nat) (S : a_S), a_tells c k l wh m to S 1 i = S 1 i
  | 0, _, _ => rfl
  | m + 1, to, S => by
    unfold a_tells
    rw [at_1 h m]
    split
    · rw [as_1 h]
    · rfl
theorem RG_tells {c k l wh : Nat} (hc : c < 6) (hk : k < 6) (hl : l < 8) (hw : wh < 4) : ∀ (m to : Nat) (S : a_S), RG S → S 1 7 + m ≤ 240 → to + m ≤ 7 → RG (a_tells c k l wh m to S) ∧ a_tells c k l wh m to S 1 7 ≤ S 1 7 + m
  | 0, _, _, h, _, _ => ⟨h, Nat.le_refl _⟩
  | m + 1, to, S, h, hq, ht => by
    have hs := g_t h 316 (6 * c + c) (Or.inl rfl)
    unfold a_tells
    split
    · rename_i hh
      have e := RG_tells hc hk hl hw m (to + 1) (a_send S c to k l 0 0 0 (S 316 (6 * c + c)) wh) (RG_send h (by omega) (by omega) (by omega) hk hl (by omega) (by omega) (by omega) hs hw) (by rw [as_7]; omega) (by omega)
      rw [as_7] at e
      exact ⟨e.1, by omega⟩
    · have e := RG_tells hc hk hl hw m (to + 1) S h (by omega) (by omega)
      exact ⟨e.1, by omega⟩
