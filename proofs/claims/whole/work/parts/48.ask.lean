/-! ===== asking ===== -/
theorem e_shr {n k : Nat} (hn : n < 2147483648) (hk : k < 32) : nI n >>> (nI k &&& 31) = nI (n / 2 ^ k) := pk_shrN hn _ k (e_sl k hk)
def a_one (S : a_S) (c t : Nat) : a_S := if a_asking S = 60 then sw S 1 8 (S 1 8 + 1) else a_send S c t (if S 298 c = 1 then 1 else 2) (S 292 c - 1) 0 0 0 0 0
theorem one_o {S : a_S} {c t r i : Nat} (h : r ≠ 586 ∧ r ≠ 1 ∧ r ≠ 6814) : a_one S c t r i = S r i := by
  unfold a_one
  split
  · rw [sw_r (by omega)]
  · rw [as_o h]
theorem one_1 {S : a_S} {c t i : Nat} (h : i ≠ 7 ∧ i ≠ 8) : a_one S c t 1 i = S 1 i := by
  unfold a_one
  split
  · rw [sw_i (by omega)]
  · rw [as_1 (by omega)]
theorem one_7 {S : a_S} {c t : Nat} : a_one S c t 1 7 ≤ S 1 7 + 1 := by
  unfold a_one
  split
  · rw [sw_i (by omega)]; omega
  · rw [as_7]; omega
theorem g_k {S : a_S} (h : RG S) (i : Nat) (hi : i % 9 = 2) : S 586 i < 6 := ((h 586 i).2.2.2.2.2.2.2.2.2.2.2.2 rfl).2.1 hi
theorem RG_one {S : a_S} {c t : Nat} (h : RG S) (hq : S 1 7 < 240) (hc : c < 6) (ht : t < 7) : RG (a_one S c t) := by
  have h8 := g_8 h 292 c (by omega)
  unfold a_one
  split
  · exact RG_sw h (by unfold rg; omega)
  · exact RG_send h hq (by omega) ht (by split <;> omega) (by omega) (by omega) (by omega) (by omega) (by omega) (by omega)
theorem q_asking {N : j_M} {S : a_S} (h : RG S) : xX12_asking (RS N S) = some (nI (a_asking S), RS N S) :=
  r_asking ((h 1 7).1 rfl |>.2.2.2.2.2.2 rfl) (fun i _ => by have := g_k h (9 * i + 2) (by omega); omega)
theorem r_one {N : j_M} {S : a_S} {c t l : Nat} (h : RG S) (hq : S 1 7 < 240) (hc : c < 6) (ht : t < 7) (hm : S 292 c = l + 1) : xX12_asksOne (nI c) (nI t) (RS N S) = some (RS N (a_one S c t)) := by
  have hw := g_4 h 298 c (Or.inl rfl)
  have ha : a_asking S ≤ 240 := by
    have := cn_le (P := fun i => S 586 (9 * i + 2) ≤ 2) (S 1 7) 0
    unfold a_asking
    omega
  unfold a_one
  unfold xX12_asksOne
  rw [q_asking h]
  simp (disch := omega) only [e_gd, e_ix, e_oli, e_oml, e_obi, e_obv, e_add, e_mul, e_sub, e_eq, e_lt, e_le, e_eq0, e_0eq, e_lt0, e_0lt, e_le0, e_0le, e_m1, e_m1', e_m1lt, Nat.add_assoc, Nat.not_lt_zero, Nat.le_zero_eq, sr_1, sr_14, sr_70, sr_126, sr_182, sr_238, sr_244, sr_292, sr_298, sr_304, sr_310, sr_316, sr_358, sr_400, sr_442, sr_484, sr_526, sr_532, sr_538, so_586, sr_586, sr_2746, sr_2752, sr_3112, sr_3118, sr_3124, sr_3130, sr_6730, sr_6736, sr_6766, sr_6814, sr_6961, sr_6962, sr_7362, sr_7363, sr_7364, su_6961, su_7362, su_7363, st_1, st_14, st_70, st_126, st_182, st_238, st_244, sm_292, so_292, st_292, st_298, st_304, st_310, st_316, st_358, st_400, st_442, st_484, st_526, st_532, sm_538, so_538, st_538, sm_586, sn_586, sp_586, st_586, st_2746, st_2752, st_3112, st_3118, st_3124, st_3130, st_6730, st_6736, st_6766, st_6814, st_6961, st_6962, st_7362, st_7363, st_7364, sv_6961, sv_7362, sv_7363, xX12_asksOne_45, hm, oI_s, r_sends, Nat.add_sub_cancel]
  by_cases h1 : a_asking S = 60
  · rw [if_pos h1, if_pos h1]
  · rw [if_neg h1, if_neg h1]
    by_cases h2 : S 298 c = 1
    · rw [if_pos h2, if_pos h2]
    · rw [if_neg h2, if_neg h2]
def a_askT (B : Nat → Nat) (c : Nat) : Nat → Nat → a_S → a_S
  | 0, _, S => S
  | m + 1, k, S => a_askT B c m (k + 1) (if B k = 1 then a_one S c k else S)
theorem ak_s {B : Nat → Nat} {c m k : Nat} {S : a_S} : a_askT B c (m + 1) k S = a_askT B c m (k + 1) (if B k = 1 then a_one S c k else S) := rfl
theorem ak_z {B : Nat → Nat} {c : Nat} : ∀ (m k : Nat) (S : a_S), (∀ j, k ≤ j → j < k + m → B j ≠ 1) → a_askT B c m k S = S
  | 0, _, _, _ => rfl
  | m + 1, k, S, h => by
    rw [ak_s, if_neg (h k (by omega) (by omega))]
    exact ak_z m (k + 1) S (fun j h1 h2 => h j (by omega) (by omega))
theorem ak_a {B : Nat → Nat} {c p : Nat} : ∀ (m k : Nat) (S : a_S), a_askT B c (m + p) k S = a_askT B c p (k + m) (a_askT B c m k S)
  | 0, k, S => by rw [Nat.zero_add]; rfl
  | m + 1, k, S => by
    rw [show m + 1 + p = (m + p) + 1 by omega, ak_s, ak_s, ak_a m (k + 1), show k + 1 + m = k + (m + 1) by omega]
theorem ak_1 {B : Nat → Nat} {c u : Nat} : ∀ (m k : Nat) (S : a_S), k ≤ u → u < k + m → (∀ j, B j = 1 ↔ j = u) → a_askT B c m k S = a_one S c u
  | 0, k, S, h1, h2, _ => by omega
  | m + 1, k, S, h1, h2, h => by
    rw [ak_s]
    by_cases hk : k = u
    · rw [if_pos ((h k).2 hk), hk]
      exact ak_z m (u + 1) _ (fun j h3 _ h4 => by have := (h j).1 h4; omega)
    · rw [if_neg (fun h4 => hk ((h k).1 h4))]
      exact ak_1 m (k + 1) S (by omega) (by omega) h
theorem ak_c {B B' : Nat → Nat} {c : Nat} : ∀ (m k : Nat) (S : a_S), (∀ j, k ≤ j → j < k + m → B j = B' j) → a_askT B c m k S = a_askT B' c m k S
  | 0, _, _, _ => rfl
  | m + 1, k, S, h => by
    rw [ak_s, ak_s, h k (by omega) (by omega)]
    exact ak_c m (k + 1) _ (fun j h1 h2 => h j (by omega) (by omega))
theorem ak_o {B : Nat → Nat} {c r i : Nat} (h : r ≠ 586 ∧ r ≠ 1 ∧ r ≠ 6814) : ∀ (m k : Nat) (S : a_S), a_askT B c m k S r i = S r i
  | 0, _, _ => rfl
  | m + 1, k, S => by
    rw [ak_s, ak_o h m]
    split
    · rw [one_o h]
    · rfl
theorem ak_i {B : Nat → Nat} {c i : Nat} (h : i ≠ 7 ∧ i ≠ 8) : ∀ (m k : Nat) (S : a_S), a_askT B c m k S 1 i = S 1 i
  | 0, _, _ => rfl
  | m + 1, k, S => by
    rw [ak_s, ak_i h m]
    split
    · rw [one_1 h]
    · rfl
theorem RG_askT {B : Nat → Nat} {c : Nat} (hc : c < 6) : ∀ (m k : Nat) (S : a_S), RG S → S 1 7 + m ≤ 240 → k + m ≤ 7 → RG (a_askT B c m k S) ∧ a_askT B c m k S 1 7 ≤ S 1 7 + m
  | 0, _, _, h, _, _ => ⟨h, Nat.le_refl _⟩
  | m + 1, k, S, h, hq, hk => by
    rw [ak_s]
    split
    · have e7 := one_7 (S := S) (c := c) (t := k)
      have e := RG_askT (B := B) hc m (k + 1) (a_one S c k) (RG_one h (by omega) hc (by omega)) (by omega) (by omega)
      exact ⟨e.1, by omega⟩
    · have e := RG_askT (B := B) hc m (k + 1) S h (by omega) (by omega)
      exact ⟨e.1, by omega⟩
def a_tg (S : a_S) (c l k : Nat) : Nat :=
  if S 1 0 ≤ k then 0
  else if S 1 3 = 0 ∨ (2 ≤ S 1 3 ∧ 1 < S 526 c) then (if k = c then 0 else 1)
  else if S 1 3 = 1 then (if S 538 (8 * c + l) = k + 1 then 1 else 0)
  else if S 1 3 = 3 then S 6766 (8 * c + l) / 2 ^ k % 2
  else 0
def a_asks (S : a_S) (c l : Nat) : a_S := a_one (a_askT (a_tg S c l) c 6 0 S) c 6
theorem r_askAll {N : j_M} {B : Nat → Nat} {c l : Nat} (hc : c < 6) : ∀ (m n k : Nat) (S : a_S), RG S → S 292 c = l + 1 → S 1 7 + m < 240 → k + m = S 1 0 → (∀ j, k ≤ j → j < k + m → B j = if j = c then 0 else 1) → xX12_asksAll_2 (n + m + 1) (nI c) (nI k) (RS N S) = some (RS N (a_one (a_askT B c m k S) c 6))
  | 0, n, k, S, h, hm, hq, hk, hB => by
    have hn := g_n h
    rw [show n + 0 + 1 = n + 1 from rfl, xX12_asksAll_2.eq_2]
    simp (disch := omega) only [e_gd, e_ix, e_oli, e_oml, e_obi, e_obv, e_add, e_mul, e_sub, e_eq, e_lt, e_le, e_eq0, e_0eq, e_lt0, e_0lt, e_le0, e_0le, e_m1, e_m1', e_m1lt, Nat.add_assoc, Nat.not_lt_zero, Nat.le_zero_eq, sr_1, sr_14, sr_70, sr_126, sr_182, sr_238, sr_244, sr_292, sr_298, sr_304, sr_310, sr_316, sr_358, sr_400, sr_442, sr_484, sr_526, sr_532, sr_538, so_586, sr_586, sr_2746, sr_2752, sr_3112, sr_3118, sr_3124, sr_3130, sr_6730, sr_6736, sr_6766, sr_6814, sr_6961, sr_6962, sr_7362, sr_7363, sr_7364, su_6961, su_7362, su_7363, if_pos, e_obvs, r_one h (show S 1 7 < 240 by omega) hc (show 6 < 7 by omega) hm]
    rfl
  | m + 1, n, k, S, h, hm, hq, hk, hB => by
    have hn := g_n h
    have e7 := one_7 (S := S) (c := c) (t := k)
    have hBk := hB k (by omega) (by omega)
    have hB1 : ∀ j, k + 1 ≤ j → j < k + 1 + m → B j = if j = c then 0 else 1 := fun j h1 h2 => hB j (by omega) (by omega)
    rw [show n + (m + 1) + 1 = (n + m + 1) + 1 by omega, xX12_asksAll_2.eq_2]
    simp (disch := omega) only [e_gd, e_ix, e_oli, e_oml, e_obi, e_obv, e_add, e_mul, e_sub, e_eq, e_lt, e_le, e_eq0, e_0eq, e_lt0, e_0lt, e_le0, e_0le, e_m1, e_m1', e_m1lt, Nat.add_assoc, Nat.not_lt_zero, Nat.le_zero_eq, sr_1, sr_14, sr_70, sr_126, sr_182, sr_238, sr_244, sr_292, sr_298, sr_304, sr_310, sr_316, sr_358, sr_400, sr_442, sr_484, sr_526, sr_532, sr_538, so_586, sr_586, sr_2746, sr_2752, sr_3112, sr_3118, sr_3124, sr_3130, sr_6730, sr_6736, sr_6766, sr_6814, sr_6961, sr_6962, sr_7362, sr_7363, sr_7364, su_6961, su_7362, su_7363, r_one h (show S 1 7 < 240 by omega) hc (show k < 7 by omega) hm]
    rw [if_neg (by omega), show n + (m + 1) = n + m + 1 from rfl, ak_s, hBk]
    by_cases h2 : k = c
    · rw [if_pos h2, if_pos h2, if_neg (by omega)]
      exact r_askAll hc m n (k + 1) S h hm (by omega) (by omega) hB1
    · rw [if_neg h2, if_neg h2, if_pos rfl]
      exact r_askAll hc m n (k + 1) (a_one S c k) (RG_one h (by omega) hc (by omega)) (by rw [one_o (by omega)]; exact hm) (by omega) (by rw [one_1 (by omega)]; omega) hB1
theorem r_askGr {N : j_M} {B : Nat → Nat} {c l g : Nat} (hc : c < 6) (hg : g < 64) : ∀ (m n k : Nat) (S : a_S), RG S → S 292 c = l + 1 → S 1 7 + m < 240 → k + m = S 1 0 → (∀ j, k ≤ j → j < k + m → B j = g / 2 ^ j % 2) → xX12_asks_146 (n + m + 1) (nI c) (nI g) (nI k) (RS N S) = some (RS N (a_one (a_askT B c m k S) c 6))
  | 0, n, k, S, h, hm, hq, hk, hB => by
    have hn := g_n h
    rw [show n + 0 + 1 = n + 1 from rfl, xX12_asks_146.eq_2]
    simp (disch := omega) only [e_gd, e_ix, e_oli, e_oml, e_obi, e_obv, e_add, e_mul, e_sub, e_eq, e_lt, e_le, e_eq0, e_0eq, e_lt0, e_0lt, e_le0, e_0le, e_m1, e_m1', e_m1lt, Nat.add_assoc, Nat.not_lt_zero, Nat.le_zero_eq, sr_1, sr_14, sr_70, sr_126, sr_182, sr_238, sr_244, sr_292, sr_298, sr_304, sr_310, sr_316, sr_358, sr_400, sr_442, sr_484, sr_526, sr_532, sr_538, so_586, sr_586, sr_2746, sr_2752, sr_3112, sr_3118, sr_3124, sr_3130, sr_6730, sr_6736, sr_6766, sr_6814, sr_6961, sr_6962, sr_7362, sr_7363, sr_7364, su_6961, su_7362, su_7363, if_pos, e_obvs, r_one h (show S 1 7 < 240 by omega) hc (show 6 < 7 by omega) hm]
    rfl
  | m + 1, n, k, S, h, hm, hq, hk, hB => by
    have hn := g_n h
    have e7 := one_7 (S := S) (c := c) (t := k)
    have hBk := hB k (by omega) (by omega)
    have hB1 : ∀ j, k + 1 ≤ j → j < k + 1 + m → B j = g / 2 ^ j % 2 := fun j h1 h2 => hB j (by omega) (by omega)
    have hdv : g / 2 ^ k ≤ g := Nat.div_le_self _ _
    rw [show n + (m + 1) + 1 = (n + m + 1) + 1 by omega, xX12_asks_146.eq_2]
    simp (disch := omega) only [e_gd, e_ix, e_oli, e_oml, e_obi, e_obv, e_add, e_mul, e_sub, e_eq, e_lt, e_le, e_eq0, e_0eq, e_lt0, e_0lt, e_le0, e_0le, e_m1, e_m1', e_m1lt, Nat.add_assoc, Nat.not_lt_zero, Nat.le_zero_eq, sr_1, sr_14, sr_70, sr_126, sr_182, sr_238, sr_244, sr_292, sr_298, sr_304, sr_310, sr_316, sr_358, sr_400, sr_442, sr_484, sr_526, sr_532, sr_538, so_586, sr_586, sr_2746, sr_2752, sr_3112, sr_3118, sr_3124, sr_3130, sr_6730, sr_6736, sr_6766, sr_6814, sr_6961, sr_6962, sr_7362, sr_7363, sr_7364, su_6961, su_7362, su_7363, e_shr, e_and, n_m1, r_one h (show S 1 7 < 240 by omega) hc (show k < 7 by omega) hm]
    rw [if_neg (by omega), show n + (m + 1) = n + m + 1 from rfl, ak_s, hBk]
    by_cases h2 : g / 2 ^ k % 2 = 1
    · rw [if_pos h2, if_pos h2]
      exact r_askGr hc hg m n (k + 1) (a_one S c k) (RG_one h (by omega) hc (by omega)) (by rw [one_o (by omega)]; exact hm) (by omega) (by rw [one_1 (by omega)]; omega) hB1
    · rw [if_neg h2, if_neg h2]
      exact r_askGr hc hg m n (k + 1) S h hm (by omega) (by omega) hB1
