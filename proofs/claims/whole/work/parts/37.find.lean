/-! ===== searching and counting ===== -/
/-- the first of the m from k on, told by one more; 0: none -/
def fr (P : Nat → Prop) [DecidablePred P] : Nat → Nat → Nat
  | 0, _ => 0
  | m + 1, k => if P k then k + 1 else fr P m (k + 1)
/-- how many of the m from k on -/
def cn (P : Nat → Prop) [DecidablePred P] : Nat → Nat → Nat
  | 0, _ => 0
  | m + 1, k => (if P k then 1 else 0) + cn P m (k + 1)
theorem fr_s {P : Nat → Prop} [DecidablePred P] {m k : Nat} : fr P (m + 1) k = if P k then k + 1 else fr P m (k + 1) := rfl
theorem cn_s {P : Nat → Prop} [DecidablePred P] {m k : Nat} : cn P (m + 1) k = (if P k then 1 else 0) + cn P m (k + 1) := rfl
theorem fr_le {P : Nat → Prop} [DecidablePred P] : ∀ (m k : Nat), fr P m k ≤ k + m
  | 0, k => Nat.zero_le _
  | m + 1, k => by
    unfold fr
    have h := fr_le (P := P) m (k + 1)
    split <;> omega
theorem cn_le {P : Nat → Prop} [DecidablePred P] : ∀ (m k : Nat), cn P m k ≤ m
  | 0, k => Nat.zero_le _
  | m + 1, k => by
    unfold cn
    have h := cn_le (P := P) m (k + 1)
    split <;> omega
/-- THE TURN at a node -/
def a_turn (S : a_S) (nd l : Nat) : Nat := fr (fun c => S 358 (6 * nd + c) = 1 ∧ S 400 (6 * nd + c) = l) (S 1 0) 0
def a_used (S : a_S) (c l : Nat) : Nat := fr (fun k => S 244 (8 * c + k) = l) (S 238 c) 0
def a_asking (S : a_S) : Nat := cn (fun i => S 586 (9 * i + 2) ≤ 2) (S 1 7) 0
theorem r_turn_l {N : j_M} {S : a_S} {nd l : Nat} (hN : S 1 0 ≤ 6) (hd : nd < 7) (hl : l < 8) (ha : ∀ i, i < 42 → S 358 i < 2) (ht : ∀ i, i < 42 → S 400 i < 8) : ∀ (m n k : Nat), k + m = S 1 0 → xX12_turn_2 (n + m + 1) (nI nd) (nI l) (nI k) (RS N S) = some (oI (fr (fun c => S 358 (6 * nd + c) = 1 ∧ S 400 (6 * nd + c) = l) m k), RS N S)
  | 0, n, k, h => by
    rw [show n + 0 + 1 = n + 1 from rfl, xX12_turn_2.eq_2]
    simp (disch := omega) only [e_gd, e_ix, e_oli, e_oml, e_obi, e_obv, e_add, e_mul, e_sub, e_eq, e_lt, e_le, e_eq0, e_0eq, e_lt0, e_0lt, e_le0, e_0le, e_m1, e_m1', e_m1lt, Nat.add_assoc, Nat.not_lt_zero, Nat.le_zero_eq, sr_1, sr_14, sr_70, sr_126, sr_182, sr_238, sr_244, sr_292, sr_298, sr_304, sr_310, sr_316, sr_358, sr_400, sr_442, sr_484, sr_526, sr_532, sr_538, so_586, sr_586, sr_2746, sr_2752, sr_3112, sr_3118, sr_3124, sr_3130, sr_6730, sr_6736, sr_6766, sr_6814, sr_6961, sr_6962, sr_7362, sr_7363, sr_7364, su_6961, su_7362, su_7363, if_pos]
    rfl
  | m + 1, n, k, h => by
    have a1 := ha (6 * nd + k) (by omega)
    have a2 := ht (6 * nd + k) (by omega)
    rw [show n + (m + 1) + 1 = (n + m + 1) + 1 by omega, xX12_turn_2.eq_2]
    simp (disch := omega) only [e_gd, e_ix, e_oli, e_oml, e_obi, e_obv, e_add, e_mul, e_sub, e_eq, e_lt, e_le, e_eq0, e_0eq, e_lt0, e_0lt, e_le0, e_0le, e_m1, e_m1', e_m1lt, Nat.add_assoc, Nat.not_lt_zero, Nat.le_zero_eq, sr_1, sr_14, sr_70, sr_126, sr_182, sr_238, sr_244, sr_292, sr_298, sr_304, sr_310, sr_316, sr_358, sr_400, sr_442, sr_484, sr_526, sr_532, sr_538, so_586, sr_586, sr_2746, sr_2752, sr_3112, sr_3118, sr_3124, sr_3130, sr_6730, sr_6736, sr_6766, sr_6814, sr_6961, sr_6962, sr_7362, sr_7363, sr_7364, su_6961, su_7362, su_7363]
    rw [show n + (m + 1) = n + m + 1 from rfl, r_turn_l hN hd hl ha ht m n (k + 1) (by omega), if_neg (by omega)]
    rw [fr_s]
    by_cases h1 : S 358 (6 * nd + k) = 1 <;> by_cases h2 : S 400 (6 * nd + k) = l <;> simp only [h1, h2, true_and, false_and, and_true, and_false, and_self, if_true, if_false, oI_s]
theorem r_turn {N : j_M} {S : a_S} {nd l : Nat} (hN : S 1 0 ≤ 6) (hd : nd < 7) (hl : l < 8) (ha : ∀ i, i < 42 → S 358 i < 2) (ht : ∀ i, i < 42 → S 400 i < 8) : xX12_turn (nI nd) (nI l) (RS N S) = some (oI (a_turn S nd l), RS N S) := by
  unfold xX12_turn a_turn
  rw [fu_s (S 1 0 + 1) (by omega), ← Nat.add_assoc]
  exact r_turn_l hN hd hl ha ht (S 1 0) _ 0 (by omega)
theorem r_used_l {N : j_M} {S : a_S} {c l : Nat} (hN : S 238 c ≤ 8) (hc : c < 6) (hl : l < 8) (ha : ∀ i, i < 48 → S 244 i < 8) : ∀ (m n k : Nat), k + m = S 238 c → xX12_usedAt_2 (n + m + 1) (nI c) (nI l) (nI k) (RS N S) = some (oI (fr (fun k => S 244 (8 * c + k) = l) m k), RS N S)
  | 0, n, k, h => by
    rw [show n + 0 + 1 = n + 1 from rfl, xX12_usedAt_2.eq_2]
    simp (disch := omega) only [e_gd, e_ix, e_oli, e_oml, e_obi, e_obv, e_add, e_mul, e_sub, e_eq, e_lt, e_le, e_eq0, e_0eq, e_lt0, e_0lt, e_le0, e_0le, e_m1, e_m1', e_m1lt, Nat.add_assoc, Nat.not_lt_zero, Nat.le_zero_eq, sr_1, sr_14, sr_70, sr_126, sr_182, sr_238, sr_244, sr_292, sr_298, sr_304, sr_310, sr_316, sr_358, sr_400, sr_442, sr_484, sr_526, sr_532, sr_538, so_586, sr_586, sr_2746, sr_2752, sr_3112, sr_3118, sr_3124, sr_3130, sr_6730, sr_6736, sr_6766, sr_6814, sr_6961, sr_6962, sr_7362, sr_7363, sr_7364, su_6961, su_7362, su_7363, if_pos]
    rfl
  | m + 1, n, k, h => by
    have a1 := ha (8 * c + k) (by omega)
    rw [show n + (m + 1) + 1 = (n + m + 1) + 1 by omega, xX12_usedAt_2.eq_2]
    simp (disch := omega) only [m_place, e_gd, e_ix, e_oli, e_oml, e_obi, e_obv, e_add, e_mul, e_sub, e_eq, e_lt, e_le, e_eq0, e_0eq, e_lt0, e_0lt, e_le0, e_0le, e_m1, e_m1', e_m1lt, Nat.add_assoc, Nat.not_lt_zero, Nat.le_zero_eq, sr_1, sr_14, sr_70, sr_126, sr_182, sr_238, sr_244, sr_292, sr_298, sr_304, sr_310, sr_316, sr_358, sr_400, sr_442, sr_484, sr_526, sr_532, sr_538, so_586, sr_586, sr_2746, sr_2752, sr_3112, sr_3118, sr_3124, sr_3130, sr_6730, sr_6736, sr_6766, sr_6814, sr_6961, sr_6962, sr_7362, sr_7363, sr_7364, su_6961, su_7362, su_7363]
    rw [show n + (m + 1) = n + m + 1 from rfl, r_used_l hN hc hl ha m n (k + 1) (by omega), if_neg (by omega)]
    rw [fr_s]
    by_cases h1 : S 244 (8 * c + k) = l <;> simp only [h1, if_true, if_false, oI_s]
theorem r_usedAt {N : j_M} {S : a_S} {c l : Nat} (hN : S 238 c ≤ 8) (hc : c < 6) (hl : l < 8) (ha : ∀ i, i < 48 → S 244 i < 8) : xX12_usedAt (nI c) (nI l) (RS N S) = some (oI (a_used S c l), RS N S) := by
  unfold xX12_usedAt a_used
  rw [fu_s (S 238 c + 1) (by omega), ← Nat.add_assoc]
  exact r_used_l hN hc hl ha (S 238 c) _ 0 (by omega)
theorem r_asking_l {N : j_M} {S : a_S} (hN : S 1 7 ≤ 240) (ha : ∀ i, i < 240 → S 586 (9 * i + 2) < 8) : ∀ (m n k s : Nat), k + m = S 1 7 → xX12_asking_4 (n + m + 1) (nI s) (nI k) (RS N S) = some (nI (s + cn (fun i => S 586 (9 * i + 2) ≤ 2) m k), RS N S)
  | 0, n, k, s, h => by
    rw [show n + 0 + 1 = n + 1 from rfl, xX12_asking_4.eq_2]
    simp (disch := omega) only [e_gd, e_ix, e_oli, e_oml, e_obi, e_obv, e_add, e_mul, e_sub, e_eq, e_lt, e_le, e_eq0, e_0eq, e_lt0, e_0lt, e_le0, e_0le, e_m1, e_m1', e_m1lt, Nat.add_assoc, Nat.not_lt_zero, Nat.le_zero_eq, sr_1, sr_14, sr_70, sr_126, sr_182, sr_238, sr_244, sr_292, sr_298, sr_304, sr_310, sr_316, sr_358, sr_400, sr_442, sr_484, sr_526, sr_532, sr_538, so_586, sr_586, sr_2746, sr_2752, sr_3112, sr_3118, sr_3124, sr_3130, sr_6730, sr_6736, sr_6766, sr_6814, sr_6961, sr_6962, sr_7362, sr_7363, sr_7364, su_6961, su_7362, su_7363, if_pos]
    rfl
  | m + 1, n, k, s, h => by
    have a1 := ha k (by omega)
    rw [show n + (m + 1) + 1 = (n + m + 1) + 1 by omega, xX12_asking_4.eq_2]
    simp (disch := omega) only [r_of, xX12_asking_31, e_gd, e_ix, e_oli, e_oml, e_obi, e_obv, e_add, e_mul, e_sub, e_eq, e_lt, e_le, e_eq0, e_0eq, e_lt0, e_0lt, e_le0, e_0le, e_m1, e_m1', e_m1lt, Nat.add_assoc, Nat.not_lt_zero, Nat.le_zero_eq, sr_1, sr_14, sr_70, sr_126, sr_182, sr_238, sr_244, sr_292, sr_298, sr_304, sr_310, sr_316, sr_358, sr_400, sr_442, sr_484, sr_526, sr_532, sr_538, so_586, sr_586, sr_2746, sr_2752, sr_3112, sr_3118, sr_3124, sr_3130, sr_6730, sr_6736, sr_6766, sr_6814, sr_6961, sr_6962, sr_7362, sr_7363, sr_7364, su_6961, su_7362, su_7363]
    rw [show n + (m + 1) = n + m + 1 from rfl, r_asking_l hN ha m n (k + 1) (s + 0) (by omega), r_asking_l hN ha m n (k + 1) (s + 1) (by omega), if_neg (by omega)]
    rw [cn_s]
    by_cases h1 : S 586 (9 * k + 2) ≤ 2
    · rw [if_neg (by omega), if_pos h1, Nat.add_assoc]
    · rw [if_pos (by omega), if_neg h1, Nat.add_assoc]
theorem r_asking {N : j_M} {S : a_S} (hN : S 1 7 ≤ 240) (ha : ∀ i, i < 240 → S 586 (9 * i + 2) < 8) : xX12_asking (RS N S) = some (nI (a_asking S), RS N S) := by
  unfold xX12_asking a_asking
  rw [fu_s (S 1 7 + 1) (by omega), ← Nat.add_assoc, r_asking_l hN ha (S 1 7) _ 0 0 (by omega), Nat.zero_add]
