/-! ===== many deliveries, many ticks ===== -/
def w4 (N : j_M) (m : Nat → Int32) : j_M := fun x => if x = 204 then m else N x
theorem w4_4 {N : j_M} {m m' : Nat → Int32} : w4 (w4 N m) m' = w4 N m' := by
  funext x
  unfold w4
  split <;> rfl
theorem w4_o {N : j_M} {m : Nat → Int32} {x : Nat} (h : x ≠ 204) : w4 N m x = N x := by
  unfold w4
  rw [if_neg h]
theorem w4_m9 {N : j_M} {S : a_S} {i : Nat} : m9 N S i 0 = w4 N (m9 N S i 0 204) := by
  funext x
  unfold w4
  split
  · rename_i h
    rw [h]
  · rename_i h
    exact m9_o h
theorem w4_id {N : j_M} : w4 N (N 204) = N := by
  funext x
  unfold w4
  split
  · rename_i h
    rw [h]
  · rfl
theorem q_del {N : j_M} {S : a_S} {i : Nat} (hi : INV S z0) (hlt : i < S 1 7) (h9 : S 6961 0 < 2147482000) : ∃ m, xX12_delivers (nI i) (RS N S) = some (nI (S 586 (9 * i + 2)), RS (w4 N m) (a_del S i)) := by
  have hq := INV_q hi
  have hT := g_T hi.1
  have sc := hi.2.2.2.2.2.2.1
  unfold SC at sc
  have v := hi.2.2.2.1 i hlt
  have g := g_f hi.1 i
  refine ⟨m9 N S i 0 204, ?_⟩
  rw [← w4_m9]
  refine r_del hi.1 hi.2.1 (by omega) (by omega) hlt h9 (fun hk => (v.2.2.2.1 hk).2.2.2) (fun _ hk => (hi.2.2.2.2.2.2.2.2.2.1 _ hk).2.1) (fun hk => ?_)
  have i1 : INV (a_rm S i) (fun x => wt x (fd S i)) := INV_rm hi hlt (fun x => by show _ = 0 + _; omega)
  have e := TK_le i1 g.2.1 g.2.2.2.1
  rw [rm_q (by omega), rm_1 (by omega)] at e
  have e2 : wt (S 586 (9 * i + 3)) (fd S i) = S 586 (9 * i + 4) := if_pos rfl
  rw [e2] at e
  omega
def a_cD : Nat → a_S → a_S
  | 0, S => S
  | m + 1, S => if S 1 7 = 0 then S else a_cD m (a_del S 0)
def a_cN : Nat → a_S → Nat
  | 0, _ => 0
  | m + 1, S => if S 1 7 = 0 then 0 else 1 + a_cN m (a_del S 0)
theorem cD_s {m : Nat} {S : a_S} : a_cD (m + 1) S = if S 1 7 = 0 then S else a_cD m (a_del S 0) := rfl
theorem cN_s {m : Nat} {S : a_S} : a_cN (m + 1) S = if S 1 7 = 0 then 0 else 1 + a_cN m (a_del S 0) := rfl
theorem INV_cD : ∀ (m : Nat) (S : a_S), INV S z0 → INV (a_cD m S) z0
  | 0, _, hi => hi
  | m + 1, S, hi => by
    rw [cD_s]
    split
    · exact hi
    · exact INV_cD m _ (INV_del hi (by omega))
theorem st_cD {r j : Nat} (h : stt r j) : ∀ (m : Nat) (S : a_S), a_cD m S r j = S r j
  | 0, _ => rfl
  | m + 1, S => by
    rw [cD_s]
    split
    · rfl
    · rw [st_cD h m, st_del h]
theorem t_cD : ∀ (m : Nat) (S : a_S), a_cD m S 6961 0 ≤ S 6961 0 + 2 * m
  | 0, _ => Nat.le_refl _
  | m + 1, S => by
    rw [cD_s]
    split
    · omega
    · have := t_cD m (a_del S 0)
      have := t_del (S := S) (i := 0)
      omega
theorem cN_le : ∀ (m : Nat) (S : a_S), a_cN m S ≤ m
  | 0, _ => Nat.le_refl _
  | m + 1, S => by
    rw [cN_s]
    split
    · omega
    · have := cN_le m (a_del S 0)
      omega
def a_calm1 (S : a_S) : a_S := a_tick (a_cD 2000 S)
theorem INV_calm1 {S : a_S} (hi : INV S z0) (h5 : S 1 5 < 10100) : INV (a_calm1 S) z0 :=
  INV_tick (INV_cD 2000 S hi) (by rw [st_cD (Or.inl ⟨rfl, by omega⟩)]; exact h5)
theorem calm1_5 {S : a_S} : a_calm1 S 1 5 = S 1 5 + 1 := by
  unfold a_calm1
  rw [tick_5, st_cD (Or.inl ⟨rfl, by omega⟩)]
theorem st_calm1 {S : a_S} {r j : Nat} (h : stt r j) (h5 : ¬ (r = 1 ∧ j = 5)) : a_calm1 S r j = S r j := by
  unfold a_calm1
  rw [st_tick h h5, st_cD h]
theorem t_calm1 {S : a_S} (hn : S 1 0 ≤ 6) : a_calm1 S 6961 0 ≤ S 6961 0 + 4006 := by
  unfold a_calm1
  have h1 := t_tick (S := a_cD 2000 S) (by rw [st_cD (Or.inl ⟨rfl, by omega⟩)]; exact hn)
  have h2 := t_cD 2000 S
  omega
theorem r_cD : ∀ (m n q : Nat) (N : j_M) (S : a_S), INV S z0 → q + m = 2000 → S 1 5 < 10100 → S 6961 0 + 2 * m < 2147481000 → ∃ x, xX12_calmOnce_2 (n + m + 1) (nI q) (RS N S) = some (nI (q + a_cN m S), RS (w4 N x) (a_tick (a_cD m S)))
  | 0, n, q, N, S, hi, hq, h5, h9 => by
    refine ⟨N 204, ?_⟩
    rw [show n + 0 + 1 = n + 1 from rfl, xX12_calmOnce_2.eq_2, w4_id]
    unfold xX12_calmOnce_31
    simp (disch := omega) only [e_gd, e_ix, e_oli2, e_oml2, e_obi2, e_obv2, e_add, e_mul, e_sub, e_eq, e_lt, e_le, e_eq0, e_0eq, e_lt0, e_0lt, e_le0, e_0le, e_m1, e_m1', e_m1lt, Nat.add_assoc, Nat.not_lt_zero, Nat.le_zero_eq, if_pos, r_tick hi h5 (show S 6961 0 < 2147481000 by omega)]
    rfl
  | m + 1, n, q, N, S, hi, hq, h5, h9 => by
    have hq7 := INV_q hi
    have e5 : a_del S 0 1 5 = S 1 5 := st_del (Or.inl ⟨rfl, by omega⟩)
    rw [show n + (m + 1) + 1 = (n + m + 1) + 1 by omega, xX12_calmOnce_2.eq_2, cN_s, cD_s]
    by_cases h0 : S 1 7 = 0
    · refine ⟨N 204, ?_⟩
      unfold xX12_calmOnce_31
      rw [w4_id, if_pos h0, if_pos h0]
      simp (disch := omega) only [e_gd, e_ix, e_oli2, e_oml2, e_obi2, e_obv2, e_add, e_mul, e_sub, e_eq, e_lt, e_le, e_eq0, e_0eq, e_lt0, e_0lt, e_le0, e_0le, e_m1, e_m1', e_m1lt, Nat.add_assoc, Nat.not_lt_zero, Nat.le_zero_eq, sr_1, sr_14, sr_70, sr_126, sr_182, sr_238, sr_244, sr_292, sr_298, sr_304, sr_310, sr_316, sr_358, sr_400, sr_442, sr_484, sr_526, sr_532, sr_538, so_586, sr_586, sr_2746, sr_2752, sr_3112, sr_3118, sr_3124, sr_3130, sr_6730, sr_6736, sr_6766, sr_6814, sr_6961, sr_6962, sr_7362, sr_7363, sr_7364, su_6961, su_7362, su_7363, r_tick hi h5 (show S 6961 0 < 2147481000 by omega)]
      rw [if_neg (by omega), if_pos h0, Nat.add_zero]
    · obtain ⟨x, ex⟩ := q_del (N := N) (i := 0) hi (by omega) (by omega)
      have td := t_del (S := S) (i := 0)
      obtain ⟨y, ey⟩ := r_cD m n (q + 1) (w4 N x) (a_del S 0) (INV_del hi (by omega)) (by omega) (by omega) (by omega)
      refine ⟨y, ?_⟩
      rw [w4_4] at ey
      simp (disch := omega) only [e_gd, e_ix, e_oli2, e_oml2, e_obi2, e_obv2, e_add, e_mul, e_sub, e_eq, e_lt, e_le, e_eq0, e_0eq, e_lt0, e_0lt, e_le0, e_0le, e_m1, e_m1', e_m1lt, Nat.add_assoc, Nat.not_lt_zero, Nat.le_zero_eq, sr_1, sr_14, sr_70, sr_126, sr_182, sr_238, sr_244, sr_292, sr_298, sr_304, sr_310, sr_316, sr_358, sr_400, sr_442, sr_484, sr_526, sr_532, sr_538, so_586, sr_586, sr_2746, sr_2752, sr_3112, sr_3118, sr_3124, sr_3130, sr_6730, sr_6736, sr_6766, sr_6814, sr_6961, sr_6962, sr_7362, sr_7363, sr_7364, su_6961, su_7362, su_7363, ex]
      rw [if_neg (by omega), if_neg h0, if_neg h0, if_neg h0, show n + (m + 1) = n + m + 1 from rfl, ey, Nat.add_assoc]
theorem r_calm1 {N : j_M} {S : a_S} (hi : INV S z0) (h5 : S 1 5 < 10100) (h9 : S 6961 0 < 2147470000) : ∃ x, xX12_calmOnce (RS N S) = some (nI (a_cN 2000 S), RS (w4 N x) (a_calm1 S)) := by
  obtain ⟨x, ex⟩ := r_cD 2000 (1000000 - 2001) 0 N S hi (by omega) h5 (by omega)
  rw [Nat.add_assoc, ← fu_s (2000 + 1) (by omega), Nat.zero_add] at ex
  exact ⟨x, ex⟩
def a_cR : Nat → a_S → a_S
  | 0, S => S
  | n + 1, S => a_cR n (a_calm1 S)
def a_cK : Nat → a_S → Nat
  | 0, _ => 0
  | n + 1, S => a_cN 2000 S + a_cK n (a_calm1 S)
theorem cR_s {m : Nat} {S : a_S} : a_cR (m + 1) S = a_cR m (a_calm1 S) := rfl
theorem cK_s {m : Nat} {S : a_S} : a_cK (m + 1) S = a_cN 2000 S + a_cK m (a_calm1 S) := rfl
theorem r_cR : ∀ (m n k s l : Nat) (N : j_M) (S : a_S), INV S z0 → k + m = l → l ≤ 60 → S 1 5 + m ≤ 10100 → S 6961 0 + 4006 * m < 2147470000 → ∃ x, xX12_calm_30 (n + m + 1) (nI l) (nI s) (nI k) (RS N S) = some (nI (s + a_cK m S), RS (w4 N x) (a_cR m S))
  | 0, n, k, s, l, N, S, hi, hk, hl, h5, h9 => by
    refine ⟨N 204, ?_⟩
    rw [show n + 0 + 1 = n + 1 from rfl, xX12_calm_30.eq_2, w4_id]
    simp (disch := omega) only [e_gd, e_ix, e_oli2, e_oml2, e_obi2, e_obv2, e_add, e_mul, e_sub, e_eq, e_lt, e_le, e_eq0, e_0eq, e_lt0, e_0lt, e_le0, e_0le, e_m1, e_m1', e_m1lt, Nat.add_assoc, Nat.not_lt_zero, Nat.le_zero_eq, if_pos]
    rfl
  | m + 1, n, k, s, l, N, S, hi, hk, hl, h5, h9 => by
    have hn := g_n hi.1
    obtain ⟨x, ex⟩ := r_calm1 (N := N) hi (by omega) (by omega)
    have t1 := t_calm1 hn
    obtain ⟨y, ey⟩ := r_cR m n (k + 1) (s + a_cN 2000 S) l (w4 N x) (a_calm1 S) (INV_calm1 hi (by omega)) (by omega) hl (by rw [calm1_5]; omega) (by omega)
    refine ⟨y, ?_⟩
    rw [w4_4] at ey
    rw [show n + (m + 1) + 1 = (n + m + 1) + 1 by omega, xX12_calm_30.eq_2]
    simp (disch := omega) only [e_gd, e_ix, e_oli2, e_oml2, e_obi2, e_obv2, e_add, e_mul, e_sub, e_eq, e_lt, e_le, e_eq0, e_0eq, e_lt0, e_0lt, e_le0, e_0le, e_m1, e_m1', e_m1lt, Nat.add_assoc, Nat.not_lt_zero, Nat.le_zero_eq, ex]
    rw [if_neg (by omega), show n + (m + 1) = n + m + 1 from rfl, ey, cK_s, cR_s, Nat.add_assoc]
theorem INV_cR : ∀ (m : Nat) (S : a_S), INV S z0 → S 1 5 + m ≤ 10100 → INV (a_cR m S) z0
  | 0, _, hi, _ => hi
  | m + 1, S, hi, h5 => by
    rw [cR_s]
    exact INV_cR m _ (INV_calm1 hi (by omega)) (by rw [calm1_5]; omega)
theorem cR_5 : ∀ (m : Nat) (S : a_S), a_cR m S 1 5 = S 1 5 + m
  | 0, _ => rfl
  | m + 1, S => by rw [cR_s, cR_5 m, calm1_5]; omega
theorem st_cR {r j : Nat} (h : stt r j) (h5 : ¬ (r = 1 ∧ j = 5)) : ∀ (m : Nat) (S : a_S), a_cR m S r j = S r j
  | 0, _ => rfl
  | m + 1, S => by rw [cR_s, st_cR h h5 m, st_calm1 h h5]
theorem t_cR : ∀ (m : Nat) (S : a_S), S 1 0 ≤ 6 → a_cR m S 6961 0 ≤ S 6961 0 + 4006 * m
  | 0, _, _ => Nat.le_refl _
  | m + 1, S, hn => by
    rw [cR_s]
    have h1 := t_cR m (a_calm1 S) (by rw [st_calm1 (Or.inl ⟨rfl, by omega⟩) (by omega)]; exact hn)
    have h2 := t_calm1 hn
    omega
def a_tkN : Nat → a_S → a_S
  | 0, S => S
  | n + 1, S => a_tkN n (a_tick S)
theorem tkN_s {m : Nat} {S : a_S} : a_tkN (m + 1) S = a_tkN m (a_tick S) := rfl
theorem INV_tkN : ∀ (m : Nat) (S : a_S), INV S z0 → S 1 5 + m ≤ 10100 → INV (a_tkN m S) z0
  | 0, _, hi, _ => hi
  | m + 1, S, hi, h5 => by
    rw [tkN_s]
    exact INV_tkN m _ (INV_tick hi (by omega)) (by rw [tick_5]; omega)
theorem tkN_5 : ∀ (m : Nat) (S : a_S), a_tkN m S 1 5 = S 1 5 + m
  | 0, _ => rfl
  | m + 1, S => by rw [tkN_s, tkN_5 m, tick_5]; omega
theorem st_tkN {r j : Nat} (h : stt r j) (h5 : ¬ (r = 1 ∧ j = 5)) : ∀ (m : Nat) (S : a_S), a_tkN m S r j = S r j
  | 0, _ => rfl
  | m + 1, S => by rw [tkN_s, st_tkN h h5 m, st_tick h h5]
theorem t_tkN : ∀ (m : Nat) (S : a_S), S 1 0 ≤ 6 → a_tkN m S 6961 0 ≤ S 6961 0 + 6 * m
  | 0, _, _ => Nat.le_refl _
  | m + 1, S, hn => by
    rw [tkN_s]
    have h1 := t_tkN m (a_tick S) (by rw [st_tick (Or.inl ⟨rfl, by omega⟩) (by omega)]; exact hn)
    have h2 := t_tick hn
    omega
theorem r_tkN {N : j_M} : ∀ (m n k l : Nat) (S : a_S), INV S z0 → k + m = l → l ≤ 99 → S 1 5 + m ≤ 10100 → S 6961 0 + 6 * m < 2147470000 → xX12_tick_28 (n + m + 1) (nI l) (nI k) (RS N S) = some (nI (S 1 5 + m), RS N (a_tkN m S))
  | 0, n, k, l, S, hi, hk, hl, h5, h9 => by
    rw [show n + 0 + 1 = n + 1 from rfl, xX12_tick_28.eq_2]
    simp (disch := omega) only [e_gd, e_ix, e_oli2, e_oml2, e_obi2, e_obv2, e_add, e_mul, e_sub, e_eq, e_lt, e_le, e_eq0, e_0eq, e_lt0, e_0lt, e_le0, e_0le, e_m1, e_m1', e_m1lt, Nat.add_assoc, Nat.not_lt_zero, Nat.le_zero_eq, sr_1, sr_14, sr_70, sr_126, sr_182, sr_238, sr_244, sr_292, sr_298, sr_304, sr_310, sr_316, sr_358, sr_400, sr_442, sr_484, sr_526, sr_532, sr_538, so_586, sr_586, sr_2746, sr_2752, sr_3112, sr_3118, sr_3124, sr_3130, sr_6730, sr_6736, sr_6766, sr_6814, sr_6961, sr_6962, sr_7362, sr_7363, sr_7364, su_6961, su_7362, su_7363, if_pos]
    rfl
  | m + 1, n, k, l, S, hi, hk, hl, h5, h9 => by
    have hn := g_n hi.1
    have t1 := t_tick hn
    have ih := r_tkN (N := N) m n (k + 1) l (a_tick S) (INV_tick hi (by omega)) (by omega) hl (by rw [tick_5]; omega) (by omega)
    rw [show n + (m + 1) + 1 = (n + m + 1) + 1 by omega, xX12_tick_28.eq_2]
    simp (disch := omega) only [e_gd, e_ix, e_oli2, e_oml2, e_obi2, e_obv2, e_add, e_mul, e_sub, e_eq, e_lt, e_le, e_eq0, e_0eq, e_lt0, e_0lt, e_le0, e_0le, e_m1, e_m1', e_m1lt, Nat.add_assoc, Nat.not_lt_zero, Nat.le_zero_eq, r_tick hi (show S 1 5 < 10100 by omega) (show S 6961 0 < 2147481000 by omega)]
    rw [if_neg (by omega), show n + (m + 1) = n + m + 1 from rfl, ih, tick_5, tkN_s, show S 1 5 + 1 + m = S 1 5 + (m + 1) by omega]
def a_ds (b : Nat) : Nat → a_S → a_S
  | 0, S => S
  | m + 1, S => if S 1 7 = 0 then S else a_ds b m (a_del S (if b = 0 then 0 else S 1 7 - 1))
theorem ds_s {b m : Nat} {S : a_S} : a_ds b (m + 1) S = if S 1 7 = 0 then S else a_ds b m (a_del S (if b = 0 then 0 else S 1 7 - 1)) := rfl
theorem INV_ds {b : Nat} : ∀ (m : Nat) (S : a_S), INV S z0 → INV (a_ds b m S) z0
  | 0, _, hi => hi
  | m + 1, S, hi => by
    rw [ds_s]
    split
    · exact hi
    · exact INV_ds m _ (INV_del hi (by split <;> omega))
theorem st_ds {b r j : Nat} (h : stt r j) : ∀ (m : Nat) (S : a_S), a_ds b m S r j = S r j
  | 0, _ => rfl
  | m + 1, S => by
    rw [ds_s]
    split
    · rfl
    · rw [st_ds h m, st_del h]
theorem t_ds {b : Nat} : ∀ (m : Nat) (S : a_S), a_ds b m S 6961 0 ≤ S 6961 0 + 2 * m
  | 0, _ => Nat.le_refl _
  | m + 1, S => by
    rw [ds_s]
    split
    · omega
    · have := t_ds (b := b) m (a_del S (if b = 0 then 0 else S 1 7 - 1))
      have := t_del (S := S) (i := if b = 0 then 0 else S 1 7 - 1)
      omega
theorem r_ds {b : Nat} (hb : b < 2) : ∀ (m n k l : Nat) (N : j_M) (S : a_S), INV S z0 → k + m = l → l ≤ 50 → S 6961 0 + 2 * m < 2147470000 → ∃ x, xX12_deliversSome_2 (n + m + 1) (nI l) (nI b) (nI k) (RS N S) = some (if k = 0 ∧ (m = 0 ∨ S 1 7 = 0) then nI 0 else nI 1, RS (w4 N x) (a_ds b m S))
  | 0, n, k, l, N, S, hi, hk, hl, h9 => by
    refine ⟨N 204, ?_⟩
    rw [show n + 0 + 1 = n + 1 from rfl, xX12_deliversSome_2.eq_2, w4_id]
    unfold xX12_deliversSome_45
    have e0 : a_ds b 0 S = S := rfl
    rw [e0, f_le (by omega) (by omega), if_pos (by omega)]
    by_cases k0 : k = 0
    · have c1 : k = 0 ∧ (0 = 0 ∨ S 1 7 = 0) := ⟨k0, Or.inl rfl⟩
      have c2 : nI k ≤ (0 : Int32) := by rw [e_le0 (by omega)]; omega
      rw [if_pos c2, if_pos c1]
    · have c1 : ¬ (k = 0 ∧ (0 = 0 ∨ S 1 7 = 0)) := fun e => k0 e.1
      have c2 : ¬ nI k ≤ (0 : Int32) := by rw [e_le0 (by omega)]; omega
      rw [if_neg c2, if_neg c1]
  | m + 1, n, k, l, N, S, hi, hk, hl, h9 => by
    have hq7 := INV_q hi
    rw [show n + (m + 1) + 1 = (n + m + 1) + 1 by omega, xX12_deliversSome_2.eq_2, ds_s]
    by_cases h0 : S 1 7 = 0
    · refine ⟨N 204, ?_⟩
      rw [w4_id, if_pos h0]
      unfold xX12_deliversSome_45
      simp (disch := omega) only [e_gd, e_ix, e_oli2, e_oml2, e_obi2, e_obv2, e_add, e_mul, e_sub, e_eq, e_lt, e_le, e_eq0, e_0eq, e_lt0, e_0lt, e_le0, e_0le, e_m1, e_m1', e_m1lt, Nat.add_assoc, Nat.not_lt_zero, Nat.le_zero_eq, sr_1, sr_14, sr_70, sr_126, sr_182, sr_238, sr_244, sr_292, sr_298, sr_304, sr_310, sr_316, sr_358, sr_400, sr_442, sr_484, sr_526, sr_532, sr_538, so_586, sr_586, sr_2746, sr_2752, sr_3112, sr_3118, sr_3124, sr_3130, sr_6730, sr_6736, sr_6766, sr_6814, sr_6961, sr_6962, sr_7362, sr_7363, sr_7364, su_6961, su_7362, su_7363]
      rw [if_neg (by omega), if_pos h0]
      (repeat' split) <;> first | rfl | (exfalso; omega)
    · have td := t_del (S := S) (i := if b = 0 then 0 else S 1 7 - 1)
      obtain ⟨x, ex⟩ := q_del (N := N) (i := if b = 0 then 0 else S 1 7 - 1) hi (by split <;> omega) (by omega)
      obtain ⟨y, ey⟩ := r_ds hb m n (k + 1) l (w4 N x) (a_del S (if b = 0 then 0 else S 1 7 - 1)) (INV_del hi (by split <;> omega)) (by omega) hl (by omega)
      refine ⟨y, ?_⟩
      have hz : ¬ (k + 1 = 0 ∧ (m = 0 ∨ a_del S (if b = 0 then 0 else S 1 7 - 1) 1 7 = 0)) := by omega
      rw [w4_4, if_neg hz] at ey
      unfold xX12_deliversSome_35
      simp (disch := omega) only [e_gd, e_ix, e_oli2, e_oml2, e_obi2, e_obv2, e_add, e_mul, e_sub, e_eq, e_lt, e_le, e_eq0, e_0eq, e_lt0, e_0lt, e_le0, e_0le, e_m1, e_m1', e_m1lt, Nat.add_assoc, Nat.not_lt_zero, Nat.le_zero_eq, sr_1, sr_14, sr_70, sr_126, sr_182, sr_238, sr_244, sr_292, sr_298, sr_304, sr_310, sr_316, sr_358, sr_400, sr_442, sr_484, sr_526, sr_532, sr_538, so_586, sr_586, sr_2746, sr_2752, sr_3112, sr_3118, sr_3124, sr_3130, sr_6730, sr_6736, sr_6766, sr_6814, sr_6961, sr_6962, sr_7362, sr_7363, sr_7364, su_6961, su_7362, su_7363]
      rw [if_neg (show ¬ l ≤ k by omega), if_neg h0, if_neg (show ¬ (k = 0 ∧ (m + 1 = 0 ∨ S 1 7 = 0)) by omega), if_neg h0, show n + (m + 1) = n + m + 1 from rfl]
      by_cases hb0 : b = 0
      · rw [if_pos hb0] at ex ey ⊢
        rw [if_pos hb0, ex, e_obi2, ey]
      · rw [if_neg hb0] at ex ey ⊢
        rw [if_neg hb0, ex, e_obi2, ey]
