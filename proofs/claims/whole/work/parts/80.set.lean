/-! ===== set ===== -/
def AH (S : a_S) : Prop := fr (fun l => S 14 (48 + l) ≠ S 1 1) 8 0 = 0 ∧ fr (fun c => S 292 c ≠ 0) 6 0 = 0 ∧ S 1 7 = 0
theorem fr_z {P : Nat → Prop} [DecidablePred P] : ∀ (m k : Nat), (∀ j, k ≤ j → j < k + m → ¬ P j) → fr P m k = 0
  | 0, _, _ => rfl
  | m + 1, k, h => by
    rw [fr_s, if_neg (h k (by omega) (by omega))]
    exact fr_z m (k + 1) (fun j h1 h2 => h j (by omega) (by omega))
theorem r_home41 {N : j_M} {S : a_S} (h : RG S) : ∀ (m n k : Nat), k + m = 6 → xX12_isAtHome_41 (n + m + 1) (nI k) (RS N S) = some (if fr (fun c => S 292 c ≠ 0) m k = 0 ∧ S 1 7 = 0 then nI 1 else nI 0, RS N S)
  | 0, n, k, hk => by
    have hq : S 1 7 ≤ 240 := (h 1 7).1 rfl |>.2.2.2.2.2.2 rfl
    have e0 : fr (fun c => S 292 c ≠ 0) 0 k = 0 := rfl
    rw [show n + 0 + 1 = n + 1 from rfl, xX12_isAtHome_41.eq_2, e0]
    simp (disch := omega) only [e_gd, e_ix, e_oli2, e_oml2, e_obi2, e_obv2, e_add, e_mul, e_sub, e_eq, e_lt, e_le, e_eq0, e_0eq, e_lt0, e_0lt, e_le0, e_0le, e_m1, e_m1', e_m1lt, Nat.add_assoc, Nat.not_lt_zero, Nat.le_zero_eq, sr_1, sr_14, sr_70, sr_126, sr_182, sr_238, sr_244, sr_292, sr_298, sr_304, sr_310, sr_316, sr_358, sr_400, sr_442, sr_484, sr_526, sr_532, sr_538, so_586, sr_586, sr_2746, sr_2752, sr_3112, sr_3118, sr_3124, sr_3130, sr_6730, sr_6736, sr_6766, sr_6814, sr_6961, sr_6962, sr_7362, sr_7363, sr_7364, su_6961, su_7362, su_7363, if_pos]
    by_cases h7 : S 1 7 = 0
    · rw [if_pos h7, if_pos ⟨trivial, h7⟩]
    · rw [if_neg h7, if_neg (fun e => h7 e.2)]
  | m + 1, n, k, hk => by
    have g := g_8 h 292 k (by omega)
    have ih := r_home41 (N := N) h m n (k + 1) (by omega)
    rw [show n + (m + 1) + 1 = (n + m + 1) + 1 by omega, xX12_isAtHome_41.eq_2, fr_s]
    simp (disch := omega) only [e_gd, e_ix, e_oli2, e_oml2, e_obi2, e_obv2, e_add, e_mul, e_sub, e_eq, e_lt, e_le, e_eq0, e_0eq, e_lt0, e_0lt, e_le0, e_0le, e_m1, e_m1', e_m1lt, Nat.add_assoc, Nat.not_lt_zero, Nat.le_zero_eq, sr_1, sr_14, sr_70, sr_126, sr_182, sr_238, sr_244, sr_292, sr_298, sr_304, sr_310, sr_316, sr_358, sr_400, sr_442, sr_484, sr_526, sr_532, sr_538, so_586, sr_586, sr_2746, sr_2752, sr_3112, sr_3118, sr_3124, sr_3130, sr_6730, sr_6736, sr_6766, sr_6814, sr_6961, sr_6962, sr_7362, sr_7363, sr_7364, su_6961, su_7362, su_7363, oI_m1]
    rw [if_neg (by omega), show n + (m + 1) = n + m + 1 from rfl, ih]
    by_cases h0 : S 292 k = 0
    · have c2 : ¬ S 292 k ≠ 0 := fun e => e h0
      rw [if_pos h0, if_neg c2]
    · rw [if_neg h0, if_pos h0, if_neg (by omega)]
theorem r_home2 {N : j_M} {S : a_S} (h : RG S) : ∀ (m n k : Nat), k + m = 8 → xX12_isAtHome_2 (n + m + 1) (nI k) (RS N S) = if fr (fun l => S 14 (48 + l) ≠ S 1 1) m k = 0 then xX12_isAtHome_41 fu (nI 0) (RS N S) else some (nI 0, RS N S)
  | 0, n, k, hk => by
    rw [show n + 0 + 1 = n + 1 from rfl, xX12_isAtHome_2.eq_2]
    simp (disch := omega) only [e_gd, e_ix, e_oli2, e_oml2, e_obi2, e_obv2, e_add, e_mul, e_sub, e_eq, e_lt, e_le, e_eq0, e_0eq, e_lt0, e_0lt, e_le0, e_0le, e_m1, e_m1', e_m1lt, Nat.add_assoc, Nat.not_lt_zero, Nat.le_zero_eq, if_pos]
    rfl
  | m + 1, n, k, hk => by
    have g := g_14 h (48 + k)
    have gT := g_T h
    have ih := r_home2 (N := N) h m n (k + 1) (by omega)
    rw [show n + (m + 1) + 1 = (n + m + 1) + 1 by omega, xX12_isAtHome_2.eq_2, fr_s, m_place, e_obi2]
    simp (disch := omega) only [e_gd, e_ix, e_oli2, e_oml2, e_obi2, e_obv2, e_add, e_mul, e_sub, e_eq, e_lt, e_le, e_eq0, e_0eq, e_lt0, e_0lt, e_le0, e_0le, e_m1, e_m1', e_m1lt, Nat.add_assoc, Nat.not_lt_zero, Nat.le_zero_eq, sr_1, sr_14, sr_70, sr_126, sr_182, sr_238, sr_244, sr_292, sr_298, sr_304, sr_310, sr_316, sr_358, sr_400, sr_442, sr_484, sr_526, sr_532, sr_538, so_586, sr_586, sr_2746, sr_2752, sr_3112, sr_3118, sr_3124, sr_3130, sr_6730, sr_6736, sr_6766, sr_6814, sr_6961, sr_6962, sr_7362, sr_7363, sr_7364, su_6961, su_7362, su_7363, Nat.reduceMul]
    rw [if_neg (by omega), show n + (m + 1) = n + m + 1 from rfl, ih]
    by_cases h0 : S 14 (48 + k) = S 1 1
    · have c2 : ¬ S 14 (48 + k) ≠ S 1 1 := fun e => e h0
      rw [if_pos h0, if_neg c2]
    · rw [if_neg h0, if_pos h0, if_neg (by omega)]
theorem r_home {N : j_M} {S : a_S} (h : RG S) : (AH S → xX12_isAtHome (RS N S) = some (nI 1, RS N S)) ∧ (¬ AH S → xX12_isAtHome (RS N S) = some (nI 0, RS N S)) := by
  have e1 := r_home2 (N := N) h 8 (1000000 - 9) 0 (by omega)
  have e2 := r_home41 (N := N) h 6 (1000000 - 7) 0 (by omega)
  rw [show 1000000 - 9 + 8 + 1 = fu by unfold fu; omega] at e1
  rw [show 1000000 - 7 + 6 + 1 = fu by unfold fu; omega] at e2
  unfold xX12_isAtHome AH
  rw [e1, e2]
  refine ⟨fun hA => ?_, fun hA => ?_⟩
  · rw [if_pos hA.1, if_pos hA.2]
  · by_cases h1 : fr (fun l => S 14 (48 + l) ≠ S 1 1) 8 0 = 0
    · rw [if_pos h1, if_neg (fun e => hA ⟨h1, e⟩)]
    · rw [if_neg h1]
theorem x_home55 {N : j_M} {S : a_S} (h : RG S) : ∀ (m n k fl : Nat), k + m = S 1 0 → fl < 2 → xX1_isAllHome_55 2 (n + m + 1) (nI fl) (nI k) (XS N 2 S) = some (if fl = 1 ∧ fr (fun c => msv S c ≠ 0) m k = 0 then nI 1 else nI 0, XS N 2 S)
  | 0, n, k, fl, hk, hf => by
    have hn := g_n h
    have e0 : fr (fun c => msv S c ≠ 0) 0 k = 0 := rfl
    rw [show n + 0 + 1 = n + 1 from rfl, xX1_isAllHome_55.eq_2, e0]
    simp (disch := omega) only [e_gd, e_ix, e_oli2, e_oml2, e_obi2, e_obv2, e_add, e_mul, e_sub, e_eq, e_lt, e_le, e_eq0, e_0eq, e_lt0, e_0lt, e_le0, e_0le, e_m1, e_m1', e_m1lt, Nat.add_assoc, Nat.not_lt_zero, Nat.le_zero_eq, Nat.reduceAdd, xr_4, xr_5, xr_6, xr_7, xr_13, xr_14, xr_3, xr_10, xr_11, xr_12, xr_15, xr_16, xr_17, xr_18, xr_19, xr_0_8, xr_0_9, xr_0_10, xr_0_11, xr_0_12, xr_0_13, xr_0_14, xr_8_11, xr_8_12, xr_8_13, xr_8_14, xr_h, xr_e, xr_u, xr_m, xr_2, xr_9, if_pos]
    by_cases h1 : fl = 1
    · rw [if_pos ⟨h1, trivial⟩, h1, e_gz1]
    · rw [if_neg (fun e => h1 e.1), show fl = 0 by omega, e_gz0]
  | m + 1, n, k, fl, hk, hf => by
    have hn := g_n h
    have ih0 := x_home55 (N := N) h m n (k + 1) 0 (by omega) (by omega)
    have ih1 := x_home55 (N := N) h m n (k + 1) 1 (by omega) (by omega)
    rw [show n + (m + 1) + 1 = (n + m + 1) + 1 by omega, xX1_isAllHome_55.eq_2, fr_s]
    unfold xX1_isAllHome_79 xX1_isAllHome_80
    simp (disch := omega) only [e_gd, e_ix, e_oli2, e_oml2, e_obi2, e_obv2, e_add, e_mul, e_sub, e_eq, e_lt, e_le, e_eq0, e_0eq, e_lt0, e_0lt, e_le0, e_0le, e_m1, e_m1', e_m1lt, Nat.add_assoc, Nat.not_lt_zero, Nat.le_zero_eq, Nat.reduceAdd, xr_4, xr_5, xr_6, xr_7, xr_13, xr_14, xr_3, xr_10, xr_11, xr_12, xr_15, xr_16, xr_17, xr_18, xr_19, xr_0_8, xr_0_9, xr_0_10, xr_0_11, xr_0_12, xr_0_13, xr_0_14, xr_8_11, xr_8_12, xr_8_13, xr_8_14, xr_h, xr_e, xr_u, xr_m, xr_2, xr_9, x_missOf (show k < 6 by omega)]
    rw [if_neg (by omega), show n + (m + 1) = n + m + 1 from rfl, ih0, ih1, f_eq0 (msv_lt h)]
    by_cases h1 : fl = 0
    · rw [if_pos h1, if_neg (by omega), if_neg (by omega)]
    · rw [if_neg h1]
      by_cases h2 : msv S k = 0
      · have c2 : ¬ msv S k ≠ 0 := fun e => e h2
        rw [if_pos h2, if_neg c2]
        simp only [show fl = 1 by omega]
      · have c2 : msv S k ≠ 0 := h2
        have c3 : ¬ (fl = 1 ∧ k + 1 = 0) := by omega
        rw [if_neg h2, if_pos c2, if_neg c3, if_neg (by omega)]
theorem x_home15 {N : j_M} {S : a_S} (h : RG S) : ∀ (m n k fl : Nat), k + m = 8 → fl < 2 → xX1_isAllHome_15 2 (n + m + 1) (nI fl) (nI k) (XS N 2 S) = xX1_isAllHome_55 2 fu (nI (if fl = 1 ∧ fr (fun l => S 14 (48 + l) ≠ S 1 1) m k = 0 then 1 else 0)) (nI 0) (XS N 2 S)
  | 0, n, k, fl, hk, hf => by
    have e0 : fr (fun l => S 14 (48 + l) ≠ S 1 1) 0 k = 0 := rfl
    rw [show n + 0 + 1 = n + 1 from rfl, xX1_isAllHome_15.eq_2, e0]
    simp (disch := omega) only [e_gd, e_ix, e_oli2, e_oml2, e_obi2, e_obv2, e_add, e_mul, e_sub, e_eq, e_lt, e_le, e_eq0, e_0eq, e_lt0, e_0lt, e_le0, e_0le, e_m1, e_m1', e_m1lt, Nat.add_assoc, Nat.not_lt_zero, Nat.le_zero_eq, Nat.reduceAdd, xr_4, xr_5, xr_6, xr_7, xr_13, xr_14, xr_3, xr_10, xr_11, xr_12, xr_15, xr_16, xr_17, xr_18, xr_19, xr_0_8, xr_0_9, xr_0_10, xr_0_11, xr_0_12, xr_0_13, xr_0_14, xr_8_11, xr_8_12, xr_8_13, xr_8_14, xr_h, xr_e, xr_u, xr_m, xr_2, xr_9, if_pos]
    by_cases h1 : fl = 1
    · rw [if_pos ⟨h1, trivial⟩, h1]
    · rw [if_neg (fun e => h1 e.1), show fl = 0 by omega]
  | m + 1, n, k, fl, hk, hf => by
    have g := g_hv h (48 + k)
    have gT := g_T h
    have ih0 := x_home15 (N := N) h m n (k + 1) 0 (by omega) (by omega)
    have ih1 := x_home15 (N := N) h m n (k + 1) 1 (by omega) (by omega)
    have rd : XS N 2 S 3 k = nI (hv S (48 + k)) := by
      have := xr_h (N := N) (t := 2) (n := 6) (l := k) (S := S) (by omega) (by omega)
      rw [show bk 6 = 0 from rfl, Nat.zero_add] at this
      exact this
    rw [show n + (m + 1) + 1 = (n + m + 1) + 1 by omega, xX1_isAllHome_15.eq_2, fr_s]
    unfold xX1_isAllHome_45 xX1_isAllHome_46
    simp (disch := omega) only [e_gd, e_ix, e_oli2, e_oml2, e_obi2, e_obv2, e_add, e_mul, e_sub, e_eq, e_lt, e_le, e_eq0, e_0eq, e_lt0, e_0lt, e_le0, e_0le, e_m1, e_m1', e_m1lt, Nat.add_assoc, Nat.not_lt_zero, Nat.le_zero_eq, Nat.reduceAdd, xr_4, xr_5, xr_6, xr_7, xr_13, xr_14, xr_3, xr_10, xr_11, xr_12, xr_15, xr_16, xr_17, xr_18, xr_19, xr_0_8, xr_0_9, xr_0_10, xr_0_11, xr_0_12, xr_0_13, xr_0_14, xr_8_11, xr_8_12, xr_8_13, xr_8_14, xr_h, xr_e, xr_u, xr_m, xr_2, xr_9, rd, hc_ h]
    rw [if_neg (by omega), show n + (m + 1) = n + m + 1 from rfl, ih0, ih1]
    by_cases h1 : fl = 0
    · rw [if_pos h1, if_neg (by omega), if_neg (by omega)]
    · rw [if_neg h1]
      by_cases h2 : S 14 (48 + k) = S 1 1
      · have c2 : ¬ S 14 (48 + k) ≠ S 1 1 := fun e => e h2
        rw [if_pos h2, if_neg c2]
        simp only [show fl = 1 by omega]
      · have c2 : S 14 (48 + k) ≠ S 1 1 := h2
        have c3 : ¬ (fl = 1 ∧ k + 1 = 0) := by omega
        rw [if_neg h2, if_pos c2, if_neg c3, if_neg (by omega)]
theorem x_home {N : j_M} {S : a_S} (hi : INV S z0) : (AH S → xX1_isAllHome 2 (XS N 2 S) = some (nI 1, XS N 2 S)) ∧ (¬ AH S → xX1_isAllHome 2 (XS N 2 S) = some (nI 0, XS N 2 S)) := by
  have hn := g_n hi.1
  have hq := INV_q hi
  have hms := hi.2.2.2.2.2.2.2.1
  have e1 := fun fl hf => x_home15 (N := N) hi.1 8 (1000000 - 9) 0 fl (by omega) hf
  have e2 := fun fl hf => x_home55 (N := N) hi.1 (S 1 0) (1000000 - (S 1 0 + 1)) 0 fl (by omega) hf
  rw [show 1000000 - 9 + 8 + 1 = fu by unfold fu; omega] at e1
  rw [show 1000000 - (S 1 0 + 1) + S 1 0 + 1 = fu by unfold fu; omega] at e2
  have q : fr (fun c => msv S c ≠ 0) (S 1 0) 0 = 0 ↔ fr (fun c => S 292 c ≠ 0) 6 0 = 0 := by
    constructor
    · intro e
      refine fr_z 6 0 (fun j _ h2 hne => ?_)
      have := (hms j (by omega)).2 hne
      exact fr_0 (P := fun c => msv S c ≠ 0) _ _ e j (by omega) (by omega) (fun e2 => hne ((msv_0 hms (by omega)).1 e2))
    · intro e
      refine fr_z _ 0 (fun j _ h2 hne => ?_)
      exact fr_0 (P := fun c => S 292 c ≠ 0) _ _ e j (by omega) (by omega) (fun e2 => hne ((msv_0 hms (by omega)).2 e2))
  have key : xX1_isAllHome 2 (XS N 2 S) = some (if (if (if S 1 7 = 0 then 1 else 0) = 1 ∧ fr (fun l => S 14 (48 + l) ≠ S 1 1) 8 0 = 0 then 1 else 0) = 1 ∧ fr (fun c => msv S c ≠ 0) (S 1 0) 0 = 0 then nI 1 else nI 0, XS N 2 S) := by
    unfold xX1_isAllHome xX1_isAllHome_12
    simp (disch := omega) only [e_gd, e_ix, e_oli2, e_oml2, e_obi2, e_obv2, e_add, e_mul, e_sub, e_eq, e_lt, e_le, e_eq0, e_0eq, e_lt0, e_0lt, e_le0, e_0le, e_m1, e_m1', e_m1lt, Nat.add_assoc, Nat.not_lt_zero, Nat.le_zero_eq, Nat.reduceAdd, xr_4, xr_5, xr_6, xr_7, xr_13, xr_14, xr_3, xr_10, xr_11, xr_12, xr_15, xr_16, xr_17, xr_18, xr_19, xr_0_8, xr_0_9, xr_0_10, xr_0_11, xr_0_12, xr_0_13, xr_0_14, xr_8_11, xr_8_12, xr_8_13, xr_8_14, xr_h, xr_e, xr_u, xr_m, xr_2, xr_9]
    by_cases h7 : S 1 7 = 0
    · rw [if_pos h7, e1 1 (by omega), e2 _ (by split <;> omega), if_pos h7]
    · rw [if_neg h7, e1 0 (by omega), e2 _ (by split <;> omega), if_neg h7]
  rw [key]
  unfold AH
  rw [← q]
  refine ⟨fun hA => ?_, fun hA => ?_⟩
  · have c1 : (if S 1 7 = 0 then 1 else 0) = 1 ∧ fr (fun l => S 14 (48 + l) ≠ S 1 1) 8 0 = 0 := ⟨if_pos hA.2.2, hA.1⟩
    have c2 : (if (if S 1 7 = 0 then 1 else 0) = 1 ∧ fr (fun l => S 14 (48 + l) ≠ S 1 1) 8 0 = 0 then 1 else 0) = 1 := if_pos c1
    rw [if_pos ⟨c2, hA.2.1⟩]
  · rw [if_neg]
    intro e
    apply hA
    have e1 := e.1
    have c1 : (if S 1 7 = 0 then 1 else 0) = 1 ∧ fr (fun l => S 14 (48 + l) ≠ S 1 1) 8 0 = 0 := Decidable.byContradiction (fun n => by rw [if_neg n] at e1; omega)
    have h7 : S 1 7 = 0 := Decidable.byContradiction (fun n => by have := c1.1; rw [if_neg n] at this; omega)
    exact ⟨c1.2, e.2, h7⟩
theorem AH_l {S : a_S} (h : AH S) : (∀ l, l < 8 → S 14 (48 + l) = S 1 1) ∧ (∀ c, c < 6 → S 292 c = 0) ∧ S 1 7 = 0 :=
  ⟨fun l hl => Decidable.byContradiction fun e => fr_0 (P := fun l => S 14 (48 + l) ≠ S 1 1) _ _ h.1 l (by omega) (by omega) e, fun c hc => Decidable.byContradiction fun e => fr_0 (P := fun c => S 292 c ≠ 0) _ _ h.2.1 c (by omega) (by omega) e, h.2.2⟩
/-- a number told -/
theorem INV_par {S S' : a_S} {h : Nat → Nat} (hi : INV S h) (hr : RG S') (hs : SC S') (hd : ∀ r i, ¬ (r = 1 ∧ (i = 2 ∨ i = 3 ∨ i = 4)) → S' r i = S r i) : INV S' h := by
  obtain ⟨_, i2, i3, i4, i5, i6, i7, i8, i9, i10, i11⟩ := hi
  exact ⟨hr, UD_c i2 (fun i => hd 238 i (by omega)) (fun i => hd 244 i (by omega)), UM_c i3 (fun i => hd 238 i (by omega)) (fun i => hd 244 i (by omega)) (fun i => hd 14 i (by omega)), VM_c i4 (fun i => hd 586 i (by omega)) (hd 1 7 (by omega)) (hd 1 0 (by omega)), TK_c i5 (fun i => hd 586 i (by omega)) (hd 1 7 (by omega)) (fun i => hd 14 i (by omega)) (hd 1 1 (by omega)), KC_c i6 (fun i => hd 586 i (by omega)) (hd 1 7 (by omega)) (fun i => hd 310 i (by omega)), hs, MS_c i8 (fun i => hd 292 i (by omega)) (fun i => hd 298 i (by omega)) (fun i => hd 304 i (by omega)) (fun i => hd 310 i (by omega)) (hd 1 0 (by omega)), HG_c i9 (fun i => hd 538 i (by omega)) (fun i => hd 6766 i (by omega)), TI_c i10 (fun i => hd 532 i (by omega)) (fun i => hd 6730 i (by omega)) (fun c _ => hd 316 _ (by omega)) (hd 1 5 (by omega)), SU_c i11 (fun i => hd 6736 i (by omega)) (hd 1 9 (by omega)) (hd 1 10 (by omega)) (hd 1 11 (by omega))⟩
theorem OKS_par {S : a_S} {b i v : Nat} (h : OKS S b) (hb : b + 100 ≤ 3000000) (hi : (i = 2 ∧ 1 ≤ v ∧ v ≤ 8) ∨ (i = 3 ∧ v ≤ 3) ∨ (i = 4 ∧ 1 ≤ v ∧ v ≤ 20)) : OKS (sw S 1 i v) (b + 100) := by
  have sc := h.1.2.2.2.2.2.2.1
  have hh := h.2.2.2
  refine ⟨INV_par h.1 (RG_sw h.1.1 (by unfold rg; omega)) ?_ (fun r j hr => sw_ne (by omega)), PR_c h.2.1 (fun r j hr => sw_ne (by omega)), TRC_c h.2.2.1 (fun j => sw_r (by omega)), ?_, ?_, hb⟩
  · unfold SC at sc ⊢
    rw [sw_i (show 0 ≠ i by omega), sw_i (show 1 ≠ i by omega)]
    rcases hi with ⟨rfl, h1, h2⟩ | ⟨rfl, h1⟩ | ⟨rfl, h1, h2⟩
    · rw [sw_at, sw_i (by omega)]; omega
    · rw [sw_i (by omega), sw_i (by omega)]; omega
    · rw [sw_i (by omega), sw_at]; omega
  · rw [sw_i (show 5 ≠ i by omega)]; omega
  · rw [sw_r (by omega), sw_i (show 5 ≠ i by omega)]; omega
/-- how many CPUs -/
theorem OKS_n {S : a_S} {b v : Nat} (h : OKS S b) (hb : b + 100 ≤ 3000000) (hA : AH S) (h1 : 2 ≤ v) (h2 : v ≤ 6) (h3 : v ≤ S 1 1) : OKS (sw S 1 0 v) (b + 100) := by
  have al := AH_l hA
  have hh := h.2.2.2
  have o : ∀ r i, ¬ (r = 1 ∧ i = 0) → sw S 1 0 v r i = S r i := fun r i hr => sw_ne hr
  obtain ⟨i1, i2, i3, i4, i5, i6, i7, i8, i9, i10, i11⟩ := h.1
  refine ⟨⟨RG_sw i1 (by unfold rg; omega), UD_c i2 (fun i => o 238 i (by omega)) (fun i => o 244 i (by omega)), UM_c i3 (fun i => o 238 i (by omega)) (fun i => o 244 i (by omega)) (fun i => o 14 i (by omega)), ?_, TK_c i5 (fun i => o 586 i (by omega)) (o 1 7 (by omega)) (fun i => o 14 i (by omega)) (o 1 1 (by omega)), KC_c i6 (fun i => o 586 i (by omega)) (o 1 7 (by omega)) (fun i => o 310 i (by omega)), ?_, ?_, HG_c i9 (fun i => o 538 i (by omega)) (fun i => o 6766 i (by omega)), TI_c i10 (fun i => o 532 i (by omega)) (fun i => o 6730 i (by omega)) (fun c _ => o 316 _ (by omega)) (o 1 5 (by omega)), SU_c i11 (fun i => o 6736 i (by omega)) (o 1 9 (by omega)) (o 1 10 (by omega)) (o 1 11 (by omega))⟩, PR_c h.2.1 (fun r i hr => o r i (by omega)), TRC_c h.2.2.1 (fun i => o _ _ (by omega)), ?_, ?_, hb⟩
  · intro i hi
    rw [o 1 7 (by omega), al.2.2] at hi
    omega
  · unfold SC at i7 ⊢
    rw [sw_at, sw_i (by omega), sw_i (by omega), sw_i (by omega)]
    omega
  · intro c hc
    have := i8 c hc
    rw [o 292 c (by omega), o 298 c (by omega), o 304 c (by omega), o 310 c (by omega)]
    exact ⟨this.1, fun h9 => absurd (al.2.1 c hc) h9⟩
  · rw [o 1 5 (by omega)]; omega
  · rw [o 6961 0 (by omega), o 1 5 (by omega)]; omega
/-- how many tokens -/
def a_tok (S : a_S) (v k : Nat) : a_S := fun r i => if r = 14 ∧ 48 ≤ i ∧ i < 48 + k then v else S r i
theorem tok_o {S : a_S} {v k r i : Nat} (h : ¬ (r = 14 ∧ 48 ≤ i)) : a_tok S v k r i = S r i := by
  unfold a_tok
  rw [if_neg (by omega)]
theorem tok_s {S : a_S} {v k : Nat} : sw (a_tok S v k) 14 (48 + k) v = a_tok S v (k + 1) := by
  funext r i
  unfold sw a_tok
  (repeat' split) <;> first | rfl | (exfalso; omega)
theorem OKS_t {S : a_S} {b v : Nat} (h : OKS S b) (hb : b + 100 ≤ 3000000) (hA : AH S) (h1 : S 1 0 ≤ v) (h2 : v ≤ 12) : OKS (sw (a_tok S v 8) 1 1 v) (b + 100) := by
  have al := AH_l hA
  have hh := h.2.2.2
  have o : ∀ r i, ¬ (r = 1 ∧ i = 1) → ¬ (r = 14 ∧ 48 ≤ i) → sw (a_tok S v 8) 1 1 v r i = S r i := fun r i hr hq => by rw [sw_ne hr, tok_o hq]
  obtain ⟨i1, i2, i3, i4, i5, i6, i7, i8, i9, i10, i11⟩ := h.1
  have m0 : ∀ φ, mq S φ = 0 := fun φ => by unfold mq; rw [al.2.2]; rfl
  have hz : ∀ n l, n < 6 → l < 8 → S 14 (8 * n + l) = 0 := by
    intro n l hn hl
    have e := i5 l hl
    have e6 := al.1 l hl
    unfold tkn at e
    rw [m0] at e
    have e7 : sm (fun n => S 14 (8 * n + l)) 7 = S 14 (8 * 0 + l) + S 14 (8 * 1 + l) + S 14 (8 * 2 + l) + S 14 (8 * 3 + l) + S 14 (8 * 4 + l) + S 14 (8 * 5 + l) + S 14 (8 * 6 + l) := by
      simp only [sm]; omega
    have z : z0 l = 0 := rfl
    have c : n = 0 ∨ n = 1 ∨ n = 2 ∨ n = 3 ∨ n = 4 ∨ n = 5 := by omega
    have e8 : S 14 (8 * 6 + l) = S 14 (48 + l) := rfl
    rcases c with rfl | rfl | rfl | rfl | rfl | rfl <;> omega
  have r8 : RG (a_tok S v 8) := by
    intro x j
    unfold a_tok
    split
    · rename_i hx
      rw [hx.1]
      unfold rg
      omega
    · exact i1 x j
  refine ⟨⟨RG_sw r8 (by unfold rg; omega), UD_c i2 (fun i => o 238 i (by omega) (by omega)) (fun i => o 244 i (by omega) (by omega)), ?_, VM_c i4 (fun i => o 586 i (by omega) (by omega)) (o 1 7 (by omega) (by omega)) (o 1 0 (by omega) (by omega)), ?_, KC_c i6 (fun i => o 586 i (by omega) (by omega)) (o 1 7 (by omega) (by omega)) (fun i => o 310 i (by omega) (by omega)), ?_, MS_c i8 (fun i => o 292 i (by omega) (by omega)) (fun i => o 298 i (by omega) (by omega)) (fun i => o 304 i (by omega) (by omega)) (fun i => o 310 i (by omega) (by omega)) (o 1 0 (by omega) (by omega)), HG_c i9 (fun i => o 538 i (by omega) (by omega)) (fun i => o 6766 i (by omega) (by omega)), TI_c i10 (fun i => o 532 i (by omega) (by omega)) (fun i => o 6730 i (by omega) (by omega)) (fun c _ => o 316 _ (by omega) (by omega)) (o 1 5 (by omega) (by omega)), SU_c i11 (fun i => o 6736 i (by omega) (by omega)) (o 1 9 (by omega) (by omega)) (o 1 10 (by omega) (by omega)) (o 1 11 (by omega) (by omega))⟩, PR_c h.2.1 (fun r i hr => o r i (by omega) (by omega)), TRC_c h.2.2.1 (fun i => o _ _ (by omega) (by omega)), ?_, ?_, hb⟩
  · intro c hc
    have := i3 c hc
    rw [o 238 c (by omega) (by omega)]
    refine ⟨fun k hk => ?_, fun k hk hk8 => ?_⟩
    · have g := g_l i1 244 (8 * c + k) (Or.inl rfl)
      rw [o 244 _ (by omega) (by omega), o 14 _ (by omega) (by omega)]
      exact this.1 k hk
    · rw [o 244 _ (by omega) (by omega)]
      exact this.2 k hk hk8
  · intro l hl
    unfold tkn
    rw [mq_c (S := S) (fun i => o 586 i (by omega) (by omega)) (o 1 7 (by omega) (by omega)), m0, sw_at]
    have e7 : sm (fun n => sw (a_tok S v 8) 1 1 v 14 (8 * n + l)) 7 = sm (fun n => if n = 6 then v else 0) 7 := by
      apply sm_c
      intro n hn
      by_cases h6 : n = 6
      · rw [if_pos h6, sw_r (by omega)]
        unfold a_tok
        rw [if_pos (by omega)]
      · rw [if_neg h6, o 14 _ (by omega) (by omega)]
        exact hz n l (by omega) hl
    have e8 : sm (fun n => if n = 6 then v else 0) 7 = v := by simp [sm]
    have z : z0 l = 0 := rfl
    rw [e7, e8, z]
    rfl
  · unfold SC at i7 ⊢
    rw [o 1 0 (by omega) (by omega), sw_at, o 1 2 (by omega) (by omega), o 1 4 (by omega) (by omega)]
    omega
  · rw [o 1 5 (by omega) (by omega)]; omega
  · rw [o 6961 0 (by omega) (by omega), o 1 5 (by omega) (by omega)]; omega
theorem i_as (x y z : Int32) : x + (y - z) = (x + y) - z := by
  apply Int32.toBitVec_inj.1
  show x.toBitVec + (y.toBitVec - z.toBitVec) = (x.toBitVec + y.toBitVec) - z.toBitVec
  apply BitVec.eq_of_toNat_eq
  simp only [BitVec.toNat_add, BitVec.toNat_sub]
  have h1 := x.toBitVec.isLt
  have h2 := y.toBitVec.isLt
  have h3 := z.toBitVec.isLt
  omega
theorem x_tok {N : j_M} {S : a_S} {v : Nat} (h : RG S) (hA : ∀ l, l < 8 → S 14 (48 + l) = S 1 1) (hv12 : v ≤ 12) : ∀ (m n k : Nat), k + m = 8 → xX1_setTokens_25 2 (n + m + 1) (nI v) (nI k) (XS N 2 (a_tok S v k)) = some (nI 1, XS N 2 (sw (a_tok S v 8) 1 1 v))
  | 0, n, k, hk => by
    rw [show n + 0 + 1 = n + 1 from rfl, xX1_setTokens_25.eq_2, show k = 8 by omega]
    simp (disch := omega) only [e_gd, e_ix, e_oli2, e_oml2, e_obi2, e_obv2, e_add, e_mul, e_sub, e_eq, e_lt, e_le, e_eq0, e_0eq, e_lt0, e_0lt, e_le0, e_0le, e_m1, e_m1', e_m1lt, Nat.add_assoc, Nat.not_lt_zero, Nat.le_zero_eq, Nat.reduceAdd, xr_4, xr_5, xr_6, xr_7, xr_13, xr_14, xr_3, xr_10, xr_11, xr_12, xr_15, xr_16, xr_17, xr_18, xr_19, xr_0_8, xr_0_9, xr_0_10, xr_0_11, xr_0_12, xr_0_13, xr_0_14, xr_8_11, xr_8_12, xr_8_13, xr_8_14, xr_h, xr_e, xr_u, xr_m, xr_2, xr_9, xw_4, xw_5, xw_6, xw_7, xw_13, xw_14, xw_3, xm_3, xw_10, xw_11, xw_12, xw_15, xw_16, xw_17, xw_18, xw_19, xw_0_8, xw_0_9, xw_0_10, xw_0_11, xw_0_12, xw_0_13, xw_0_14, xw_8_11, xw_8_12, xw_8_13, xw_8_14, xw_h, xw_e, if_pos]
  | m + 1, n, k, hk => by
    have ih := x_tok (N := N) h hA hv12 m n (k + 1) (by omega)
    have gT := g_T h
    have a14 : a_tok S v k 14 (48 + k) = S 1 1 := by
      unfold a_tok
      rw [if_neg (by omega)]
      exact hA k (by omega)
    have rd : XS N 2 (a_tok S v k) 3 k = nI (hv (a_tok S v k) (48 + k)) := by
      have := xr_h (N := N) (t := 2) (n := 6) (l := k) (S := a_tok S v k) (by omega) (by omega)
      rw [show bk 6 = 0 from rfl, Nat.zero_add] at this
      exact this
    have wr : ∀ c o w d, mw (XS N 2 (a_tok S v k)) 3 k (nI (hvv c o w d)) = XS N 2 (sh4 (a_tok S v k) (48 + k) c o w d) := by
      intro c o w d
      have := xw_h (N := N) (t := 2) (n := 6) (l := k) (c := c) (o := o) (v := w) (d := d) (S := a_tok S v k) (by omega) (by omega) (by omega)
      rw [show bk 6 = 0 from rfl, Nat.zero_add] at this
      exact this
    have eT : a_tok S v k 1 1 = S 1 1 := tok_o (by omega)
    have ar : nI (hv (a_tok S v k) (48 + k)) + (nI v - nI (S 1 1)) = nI (hvv v (a_tok S v k 70 (48 + k)) (a_tok S v k 126 (48 + k)) (a_tok S v k 182 (48 + k))) := by
      unfold hv hvv
      rw [a14, i_as, e_add, e_sub (by omega)]
      congr 1
      omega
    rw [show n + (m + 1) + 1 = (n + m + 1) + 1 by omega, xX1_setTokens_25.eq_2]
    simp (disch := omega) only [e_gd, e_ix, e_oli2, e_oml2, e_obi2, e_obv2, e_add, e_mul, e_sub, e_eq, e_lt, e_le, e_eq0, e_0eq, e_lt0, e_0lt, e_le0, e_0le, e_m1, e_m1', e_m1lt, Nat.add_assoc, Nat.not_lt_zero, Nat.le_zero_eq, Nat.reduceAdd, xr_4, xr_5, xr_6, xr_7, xr_13, xr_14, xr_3, xr_10, xr_11, xr_12, xr_15, xr_16, xr_17, xr_18, xr_19, xr_0_8, xr_0_9, xr_0_10, xr_0_11, xr_0_12, xr_0_13, xr_0_14, xr_8_11, xr_8_12, xr_8_13, xr_8_14, xr_h, xr_e, xr_u, xr_m, xr_2, xr_9, rd, eT, ar, wr]
    rw [if_neg (by omega), show n + (m + 1) = n + m + 1 from rfl, sh4_n, tok_s, ih]
theorem r_tok {N : j_M} {S : a_S} {v : Nat} : ∀ (m n k : Nat), k + m = 8 → xX12_set_107 (n + m + 1) (nI v) (nI k) (RS N (sw (a_tok S v k) 1 1 v)) = some (nI 1, RS N (sw (a_tok S v 8) 1 1 v))
  | 0, n, k, hk => by
    rw [show n + 0 + 1 = n + 1 from rfl, xX12_set_107.eq_2, show k = 8 by omega]
    simp (disch := omega) only [e_gd, e_ix, e_oli2, e_oml2, e_obi2, e_obv2, e_add, e_mul, e_sub, e_eq, e_lt, e_le, e_eq0, e_0eq, e_lt0, e_0lt, e_le0, e_0le, e_m1, e_m1', e_m1lt, Nat.add_assoc, Nat.not_lt_zero, Nat.le_zero_eq, if_pos]
  | m + 1, n, k, hk => by
    have ih := r_tok (N := N) (S := S) (v := v) m n (k + 1) (by omega)
    rw [show n + (m + 1) + 1 = (n + m + 1) + 1 by omega, xX12_set_107.eq_2, m_place, e_obi2]
    simp (disch := omega) only [e_gd, e_ix, e_oli2, e_oml2, e_obi2, e_obv2, e_add, e_mul, e_sub, e_eq, e_lt, e_le, e_eq0, e_0eq, e_lt0, e_0lt, e_le0, e_0le, e_m1, e_m1', e_m1lt, Nat.add_assoc, Nat.not_lt_zero, Nat.le_zero_eq, st_1, st_14, st_70, st_126, st_182, st_238, st_244, sm_292, so_292, st_292, st_298, st_304, st_310, st_316, st_358, st_400, st_442, st_484, st_526, st_532, sm_538, so_538, st_538, sm_586, sn_586, sp_586, st_586, st_2746, st_2752, st_3112, st_3118, st_3124, st_3130, st_6730, st_6736, st_6766, st_6814, st_6961, st_6962, st_7362, st_7363, st_7364, sv_6961, sv_7362, sv_7363, Nat.reduceMul]
    rw [if_neg (by omega), show n + (m + 1) = n + m + 1 from rfl, sw_comm (r := 1) (r' := 14) (by omega), tok_s, ih]
