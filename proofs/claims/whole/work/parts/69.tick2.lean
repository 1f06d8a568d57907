/-! ===== a tick as a whole ===== -/
theorem st_asks {S : a_S} {c l r j : Nat} (h : stt r j) : a_asks S c l r j = S r j := by
  unfold stt at h
  by_cases h1 : r = 1
  · subst h1; exact ask_1 (by omega)
  · exact ask_o (by omega)
theorem st_afg {S : a_S} {c l r j : Nat} (h : stt r j) : a_afg S c l r j = S r j := by
  have h' := h
  unfold stt at h'
  unfold a_afg
  rw [st_settles h]
  unfold a_afg3 a_afg2
  rw [sw_r (by omega), sw_ne (by omega), sw_r (by omega), st_tells h, st_notes h, af1_o (by omega)]
theorem st_begins {S : a_S} {c l w v r j : Nat} (h : stt r j) : a_begins S c l w v r j = S r j := by
  have h' := h
  unfold stt at h'
  unfold a_begins
  split
  · unfold a_hit a_hit0
    rw [ad_o (by omega), st_notes h, sw_r (by omega), sw_ne (by omega)]
  · unfold a_mis
    rw [st_asks h, st_notes h, mi0_o (by omega)]
theorem t_begins {S : a_S} {c l w v : Nat} : a_begins S c l w v 6961 0 = S 6961 0 + 1 := by
  unfold a_begins
  split
  · unfold a_hit
    rw [ad_o (by omega), an_t, hi0_o (by omega)]
  · unfold a_mis
    rw [ask_o (by omega), an_t, mi0_o (by omega)]
theorem st_tof {S : a_S} {c r j : Nat} (h : stt r j) : a_ticksOf S c r j = S r j := by
  have h' := h
  unfold stt at h'
  unfold a_ticksOf
  split
  · rfl
  · split
    · unfold a_tk1
      rw [st_asks h, st_notes h, tk0_o (by omega)]
    · exact st_afg h
theorem t_afg {S : a_S} {c l : Nat} : a_afg S c l 6961 0 = S 6961 0 + 1 := by
  unfold a_afg
  rw [t_settles]
  unfold a_afg3 a_afg2
  rw [sw_r (by omega), sw_r (by omega), sw_r (by omega), at_o (by omega), an_t, af1_o (by omega)]
theorem t_tof {S : a_S} {c : Nat} : a_ticksOf S c 6961 0 ≤ S 6961 0 + 1 := by
  unfold a_ticksOf
  split
  · omega
  · split
    · unfold a_tk1
      rw [ask_o (by omega), an_t, tk0_o (by omega)]; exact Nat.le_refl _
    · rw [t_afg]; exact Nat.le_refl _
theorem q_settles316 {S : a_S} {nd l i : Nat} : a_settles S nd l 316 i = S 316 i := by
  unfold a_settles a_givesAll
  (repeat' split) <;> first | rfl | exact ag_o (by omega)
theorem tof_316 {S : a_S} {c d : Nat} (h : d ≠ c) : a_ticksOf S c 316 (6 * d + d) = S 316 (6 * d + d) := by
  unfold a_ticksOf
  split
  · rfl
  · split
    · unfold a_tk1
      rw [ask_o (by omega), an_o (by omega), tk0_o (by omega)]
    · unfold a_afg
      rw [q_settles316]
      unfold a_afg3 a_afg2
      rw [sw_r (by omega), sw_r (by omega), sw_r (by omega), at_o (by omega), an_o (by omega)]
      unfold a_afg1
      rw [sw_r (by omega), sw_r (by omega), sw_r (by omega), sw_r (by omega), sw_i (by omega)]
def a_tickL : Nat → Nat → a_S → a_S
  | 0, _, S => S
  | m + 1, c, S => a_tickL m (c + 1) (a_ticksOf S c)
theorem tl_s {m c : Nat} {S : a_S} : a_tickL (m + 1) c S = a_tickL m (c + 1) (a_ticksOf S c) := rfl
def a_grp (S : a_S) (k : Nat) : a_S := fun r i => if r = 6766 ∧ k ≤ i ∧ i < 48 then 0 else S r i
def a_tick0 (S : a_S) : a_S := if (S 1 5 + 1) % 16 = 0 then a_grp (sw S 1 5 (S 1 5 + 1)) 0 else sw S 1 5 (S 1 5 + 1)
def a_tick (S : a_S) : a_S := a_tickL (S 1 0) 0 (a_tick0 S)
theorem gr_o {S : a_S} {k r i : Nat} (h : r ≠ 6766) : a_grp S k r i = S r i := by
  unfold a_grp
  rw [if_neg (fun e => h e.1)]
theorem RG_grp {S : a_S} {k : Nat} (h : RG S) : RG (a_grp S k) := by
  intro x j
  unfold a_grp
  split
  · rename_i h1
    rw [h1.1]
    unfold rg
    omega
  · exact h x j
theorem t0_o {S : a_S} {r i : Nat} (h : r ≠ 6766 ∧ ¬ (r = 1 ∧ i = 5)) : a_tick0 S r i = S r i := by
  unfold a_tick0
  split
  · rw [gr_o h.1, sw_ne h.2]
  · rw [sw_ne h.2]
theorem t0_5 {S : a_S} : a_tick0 S 1 5 = S 1 5 + 1 := by
  unfold a_tick0
  split
  · rw [gr_o (by omega), sw_at]
  · rw [sw_at]
theorem t0_6 {S : a_S} {i : Nat} : a_tick0 S 6766 i = S 6766 i ∨ a_tick0 S 6766 i = 0 := by
  unfold a_tick0
  split
  · unfold a_grp
    split
    · exact Or.inr rfl
    · rw [sw_r (by omega)]; exact Or.inl rfl
  · rw [sw_r (by omega)]; exact Or.inl rfl
theorem INV_t0 {S : a_S} {h : Nat → Nat} (hi : INV S h) (ht : S 1 5 < 10100) : INV (a_tick0 S) h := by
  have hr : RG (a_tick0 S) := by
    have e : RG (sw S 1 5 (S 1 5 + 1)) := RG_sw hi.1 (by unfold rg; omega)
    unfold a_tick0
    split
    · exact RG_grp e
    · exact e
  obtain ⟨i1, i2, i3, i4, i5, i6, i7, i8, i9, i10, i11⟩ := hi
  refine ⟨hr, UD_c i2 (fun i => t0_o (by omega)) (fun i => t0_o (by omega)), UM_c i3 (fun i => t0_o (by omega)) (fun i => t0_o (by omega)) (fun i => t0_o (by omega)), VM_c i4 (fun i => t0_o (by omega)) (t0_o (by omega)) (t0_o (by omega)), TK_c i5 (fun i => t0_o (by omega)) (t0_o (by omega)) (fun i => t0_o (by omega)) (t0_o (by omega)), KC_c i6 (fun i => t0_o (by omega)) (t0_o (by omega)) (fun i => t0_o (by omega)), SC_c i7 (fun i hi => t0_o (by omega)), MS_c i8 (fun i => t0_o (by omega)) (fun i => t0_o (by omega)) (fun i => t0_o (by omega)) (fun i => t0_o (by omega)) (t0_o (by omega)), ?_, ?_, SU_c i11 (fun i => t0_o (by omega)) (t0_o (by omega)) (t0_o (by omega)) (t0_o (by omega))⟩
  · intro c l hc hl
    rw [t0_o (by omega)]
    refine ⟨(i9 c l hc hl).1, ?_⟩
    rcases t0_6 (S := S) (i := 8 * c + l) with e | e
    · rw [e]; exact (i9 c l hc hl).2
    · rw [e, Nat.zero_div]
  · intro c hc
    have := i10 c hc
    rw [t0_5, t0_o (r := 532) (by omega), t0_o (r := 6730) (by omega), t0_o (r := 316) (by omega)]
    omega
theorem INV_tickL {h : Nat → Nat} : ∀ (m c : Nat) (S : a_S), INV S h → c + m = S 1 0 → (∀ d, c ≤ d → d < S 1 0 → S 316 (6 * d + d) < S 1 5) → INV (a_tickL m c S) h
  | 0, _, _, hi, _, _ => hi
  | m + 1, c, S, hi, hm, hs => by
    have hn := g_n hi.1
    have e0 : a_ticksOf S c 1 0 = S 1 0 := st_tof (Or.inl ⟨rfl, by omega⟩)
    have e5 : a_ticksOf S c 1 5 = S 1 5 := st_tof (Or.inl ⟨rfl, by omega⟩)
    rw [tl_s]
    refine INV_tickL m (c + 1) _ (INV_ticksOf hi (by omega) (by omega) (hs c (by omega) (by omega))) (by rw [e0]; omega) (fun d h1 h2 => ?_)
    rw [tof_316 (by omega), e5]
    rw [e0] at h2
    exact hs d (by omega) h2
theorem INV_tick {S : a_S} {h : Nat → Nat} (hi : INV S h) (ht : S 1 5 < 10100) : INV (a_tick S) h := by
  have hn := g_n hi.1
  unfold a_tick
  refine INV_tickL (S 1 0) 0 _ (INV_t0 hi ht) (by rw [t0_o (by omega)]; omega) (fun d _ h2 => ?_)
  rw [t0_o (by omega)] at h2
  have := (hi.2.2.2.2.2.2.2.2.2.1 d (by omega)).2.2
  rw [t0_o (by omega), t0_5]
  omega
theorem st_tickL {r j : Nat} (h : stt r j) : ∀ (m c : Nat) (S : a_S), a_tickL m c S r j = S r j
  | 0, _, _ => rfl
  | m + 1, c, S => by rw [tl_s, st_tickL h m, st_tof h]
theorem st_tick {S : a_S} {r j : Nat} (h : stt r j) (h5 : ¬ (r = 1 ∧ j = 5)) : a_tick S r j = S r j := by
  unfold a_tick
  rw [st_tickL h, t0_o ⟨by unfold stt at h; omega, h5⟩]
theorem tick_5 {S : a_S} : a_tick S 1 5 = S 1 5 + 1 := by
  unfold a_tick
  rw [st_tickL (Or.inl ⟨rfl, by omega⟩), t0_5]
theorem t_tickL : ∀ (m c : Nat) (S : a_S), a_tickL m c S 6961 0 ≤ S 6961 0 + m
  | 0, _, _ => Nat.le_refl _
  | m + 1, c, S => by
    rw [tl_s]
    have := t_tickL m (c + 1) (a_ticksOf S c)
    have := t_tof (S := S) (c := c)
    omega
theorem t_tick {S : a_S} (hn : S 1 0 ≤ 6) : a_tick S 6961 0 ≤ S 6961 0 + 6 := by
  unfold a_tick
  have := t_tickL (S 1 0) 0 (a_tick0 S)
  rw [t0_o (by omega)] at this
  omega
theorem r_tickL {N : j_M} : ∀ (m n c : Nat) (S : a_S), INV S z0 → c + m = S 1 0 → (∀ d, c ≤ d → d < S 1 0 → S 316 (6 * d + d) < S 1 5) → S 6961 0 + m < 2147482000 → xX12_ticksOnce_49 (n + m + 1) (nI c) (RS N S) = some (RS N (a_tickL m c S))
  | 0, n, c, S, hi, hm, hs, ht => by
    have hn := g_n hi.1
    rw [show n + 0 + 1 = n + 1 from rfl, xX12_ticksOnce_49.eq_2]
    simp (disch := omega) only [e_gd, e_ix, e_oli2, e_oml2, e_obi2, e_obv2, e_add, e_mul, e_sub, e_eq, e_lt, e_le, e_eq0, e_0eq, e_lt0, e_0lt, e_le0, e_0le, e_m1, e_m1', e_m1lt, Nat.add_assoc, Nat.not_lt_zero, Nat.le_zero_eq, sr_1, sr_14, sr_70, sr_126, sr_182, sr_238, sr_244, sr_292, sr_298, sr_304, sr_310, sr_316, sr_358, sr_400, sr_442, sr_484, sr_526, sr_532, sr_538, so_586, sr_586, sr_2746, sr_2752, sr_3112, sr_3118, sr_3124, sr_3130, sr_6730, sr_6736, sr_6766, sr_6814, sr_6961, sr_6962, sr_7362, sr_7363, sr_7364, su_6961, su_7362, su_7363, if_pos]
    rfl
  | m + 1, n, c, S, hi, hm, hs, ht => by
    have hn := g_n hi.1
    have hq := INV_q hi
    have htk := g_tk hi.1
    have hsc := hs c (by omega) (by omega)
    have e0 : a_ticksOf S c 1 0 = S 1 0 := st_tof (Or.inl ⟨rfl, by omega⟩)
    have e5 : a_ticksOf S c 1 5 = S 1 5 := st_tof (Or.inl ⟨rfl, by omega⟩)
    have et := t_tof (S := S) (c := c)
    have ih := r_tickL (N := N) m n (c + 1) (a_ticksOf S c) (INV_ticksOf hi (by omega) (by omega) hsc) (by rw [e0]; omega) (fun d h1 h2 => by
      rw [tof_316 (by omega), e5]
      rw [e0] at h2
      exact hs d (by omega) h2) (by omega)
    rw [show n + (m + 1) + 1 = (n + m + 1) + 1 by omega, xX12_ticksOnce_49.eq_2]
    simp (disch := omega) only [e_gd, e_ix, e_oli2, e_oml2, e_obi2, e_obv2, e_add, e_mul, e_sub, e_eq, e_lt, e_le, e_eq0, e_0eq, e_lt0, e_0lt, e_le0, e_0le, e_m1, e_m1', e_m1lt, Nat.add_assoc, Nat.not_lt_zero, Nat.le_zero_eq, sr_1, sr_14, sr_70, sr_126, sr_182, sr_238, sr_244, sr_292, sr_298, sr_304, sr_310, sr_316, sr_358, sr_400, sr_442, sr_484, sr_526, sr_532, sr_538, so_586, sr_586, sr_2746, sr_2752, sr_3112, sr_3118, sr_3124, sr_3130, sr_6730, sr_6736, sr_6766, sr_6814, sr_6961, sr_6962, sr_7362, sr_7363, sr_7364, su_6961, su_7362, su_7363, r_ticksOf hi.1 (show 1 ≤ S 1 0 by omega) (show S 1 7 ≤ 230 by omega) (show c < 6 by omega) (show S 6961 0 < 2147482000 by omega) (show S 316 (6 * c + c) < 10100 by omega) (hi.2.2.2.2.2.2.2.2.2.1 c (by omega)).1]
    rw [if_neg (by omega), show n + (m + 1) = n + m + 1 from rfl, ih, tl_s]
theorem r_grp {N : j_M} : ∀ (m n k : Nat) (S : a_S), k + m = 48 → S 1 5 < 20000 → S 1 5 % 16 = 0 → xX12_ticksOnce_12 (n + m + 1) (nI k) (RS N S) = xX12_ticksOnce_47 (RS N (a_grp S k))
  | 0, n, k, S, hk, h5, h16 => by
    have e : a_grp S k = S := by
      funext r i
      unfold a_grp
      rw [if_neg (by omega)]
    rw [show n + 0 + 1 = n + 1 from rfl, xX12_ticksOnce_12.eq_2, e]
    simp (disch := omega) only [e_gd, e_ix, e_oli2, e_oml2, e_obi2, e_obv2, e_add, e_mul, e_sub, e_eq, e_lt, e_le, e_eq0, e_0eq, e_lt0, e_0lt, e_le0, e_0le, e_m1, e_m1', e_m1lt, Nat.add_assoc, Nat.not_lt_zero, Nat.le_zero_eq, if_pos]
  | m + 1, n, k, S, hk, h5, h16 => by
    have ih := r_grp (N := N) m n (k + 1) (sw S 6766 k 0) (by omega) (by rw [sw_r (by omega)]; exact h5) (by rw [sw_r (by omega)]; exact h16)
    have e : a_grp (sw S 6766 k 0) (k + 1) = a_grp S k := by
      funext r i
      unfold a_grp sw
      (repeat' split) <;> first | rfl | (exfalso; omega)
    rw [show n + (m + 1) + 1 = (n + m + 1) + 1 by omega, xX12_ticksOnce_12.eq_2]
    simp (disch := omega) only [e_gd, e_ix, e_oli2, e_oml2, e_obi2, e_obv2, e_add, e_mul, e_sub, e_eq, e_lt, e_le, e_eq0, e_0eq, e_lt0, e_0lt, e_le0, e_0le, e_m1, e_m1', e_m1lt, Nat.add_assoc, Nat.not_lt_zero, Nat.le_zero_eq, sr_1, sr_14, sr_70, sr_126, sr_182, sr_238, sr_244, sr_292, sr_298, sr_304, sr_310, sr_316, sr_358, sr_400, sr_442, sr_484, sr_526, sr_532, sr_538, so_586, sr_586, sr_2746, sr_2752, sr_3112, sr_3118, sr_3124, sr_3130, sr_6730, sr_6736, sr_6766, sr_6814, sr_6961, sr_6962, sr_7362, sr_7363, sr_7364, su_6961, su_7362, su_7363, st_1, st_14, st_70, st_126, st_182, st_238, st_244, sm_292, so_292, st_292, st_298, st_304, st_310, st_316, st_358, st_400, st_442, st_484, st_526, st_532, sm_538, so_538, st_538, sm_586, sn_586, sp_586, st_586, st_2746, st_2752, st_3112, st_3118, st_3124, st_3130, st_6730, st_6736, st_6766, st_6814, st_6961, st_6962, st_7362, st_7363, st_7364, sv_6961, sv_7362, sv_7363, e_gn, e_rem]
    rw [if_neg (by omega), if_pos h16, show n + (m + 1) = n + m + 1 from rfl, ih, e]
theorem r_tick {N : j_M} {S : a_S} (hi : INV S z0) (ht : S 1 5 < 10100) (h9 : S 6961 0 < 2147481000) : xX12_ticksOnce (RS N S) = some (RS N (a_tick S)) := by
  have hn := g_n hi.1
  have i0 := INV_t0 hi ht
  have e := r_tickL (N := N) (S 1 0) (1000000 - (S 1 0 + 1)) 0 (a_tick0 S) i0 (by rw [t0_o (by omega)]; omega) (fun d _ h2 => by
    rw [t0_o (by omega)] at h2
    have := (hi.2.2.2.2.2.2.2.2.2.1 d (by omega)).2.2
    rw [t0_o (by omega), t0_5]
    omega) (by rw [t0_o (by omega)]; omega)
  rw [Nat.add_assoc, ← fu_s (S 1 0 + 1) (by omega)] at e
  have e47 : xX12_ticksOnce_47 (RS N (a_tick0 S)) = some (RS N (a_tick S)) := e
  have s5 : sw S 1 5 (S 1 5 + 1) 1 5 = S 1 5 + 1 := sw_at
  unfold xX12_ticksOnce
  simp (disch := omega) only [e_gd, e_ix, e_oli2, e_oml2, e_obi2, e_obv2, e_add, e_mul, e_sub, e_eq, e_lt, e_le, e_eq0, e_0eq, e_lt0, e_0lt, e_le0, e_0le, e_m1, e_m1', e_m1lt, Nat.add_assoc, Nat.not_lt_zero, Nat.le_zero_eq, sr_1, sr_14, sr_70, sr_126, sr_182, sr_238, sr_244, sr_292, sr_298, sr_304, sr_310, sr_316, sr_358, sr_400, sr_442, sr_484, sr_526, sr_532, sr_538, so_586, sr_586, sr_2746, sr_2752, sr_3112, sr_3118, sr_3124, sr_3130, sr_6730, sr_6736, sr_6766, sr_6814, sr_6961, sr_6962, sr_7362, sr_7363, sr_7364, su_6961, su_7362, su_7363, st_1, st_14, st_70, st_126, st_182, st_238, st_244, sm_292, so_292, st_292, st_298, st_304, st_310, st_316, st_358, st_400, st_442, st_484, st_526, st_532, sm_538, so_538, st_538, sm_586, sn_586, sp_586, st_586, st_2746, st_2752, st_3112, st_3118, st_3124, st_3130, st_6730, st_6736, st_6766, st_6814, st_6961, st_6962, st_7362, st_7363, st_7364, sv_6961, sv_7362, sv_7363]
  unfold a_tick0 at e47
  by_cases h16 : (S 1 5 + 1) % 16 = 0
  · rw [if_pos h16] at e47
    rw [fu_s 49 (by omega), show 1000000 - 49 + 49 = 999951 + 48 + 1 by omega, r_grp 48 999951 0 _ (by omega) (by rw [s5]; omega) (by rw [s5]; exact h16), e47]
  · rw [if_neg h16] at e47
    rw [fu_s 1 (by omega), show 1000000 - 1 + 1 = 999999 + 1 by omega, xX12_ticksOnce_12.eq_2]
    simp (disch := omega) only [e_gd, e_ix, e_oli2, e_oml2, e_obi2, e_obv2, e_add, e_mul, e_sub, e_eq, e_lt, e_le, e_eq0, e_0eq, e_lt0, e_0lt, e_le0, e_0le, e_m1, e_m1', e_m1lt, Nat.add_assoc, Nat.not_lt_zero, Nat.le_zero_eq, sr_1, sr_14, sr_70, sr_126, sr_182, sr_238, sr_244, sr_292, sr_298, sr_304, sr_310, sr_316, sr_358, sr_400, sr_442, sr_484, sr_526, sr_532, sr_538, so_586, sr_586, sr_2746, sr_2752, sr_3112, sr_3118, sr_3124, sr_3130, sr_6730, sr_6736, sr_6766, sr_6814, sr_6961, sr_6962, sr_7362, sr_7363, sr_7364, su_6961, su_7362, su_7363, s5, e_gn, e_rem]
    rw [if_neg (by omega), if_neg h16, e47]
