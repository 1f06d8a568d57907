/-! ===== asks, begins ===== -/
theorem tg_n {S : a_S} {c l k : Nat} (h : S 1 0 ≤ k) : a_tg S c l k = 0 := by unfold a_tg; rw [if_pos h]
theorem ak_6 {S S' : a_S} {c l : Nat} (h : S 1 0 ≤ 6) : a_askT (a_tg S c l) c 6 0 S' = a_askT (a_tg S c l) c (S 1 0) 0 S' := by
  have e : a_askT (a_tg S c l) c (S 1 0 + (6 - S 1 0)) 0 S' = a_askT (a_tg S c l) c (S 1 0) 0 S' := by
    rw [ak_a]
    exact ak_z _ _ _ (fun j h1 _ => by rw [tg_n (by omega)]; omega)
  rw [show S 1 0 + (6 - S 1 0) = 6 by omega] at e
  exact e
theorem g_gr {S : a_S} (h : RG S) (i : Nat) : S 6766 i < 64 := (h 6766 i).2.2.2.2.2.2.2.2.2.2.1 rfl
theorem g_hi {S : a_S} (h : RG S) (i : Nat) : S 538 i ≤ 6 := (h 538 i).2.2.2.2.2.2.2.2.1 rfl
theorem g_po {S : a_S} (h : RG S) : S 1 3 ≤ 3 := (h 1 3).1 rfl |>.2.2.2.1 rfl
theorem r_146 {N : j_M} {S : a_S} {c l g : Nat} (h : RG S) (hc : c < 6) (hm : S 292 c = l + 1) (hq : S 1 7 + 6 < 240) (hg : g < 64) : xX12_asks_146 fu (nI c) (nI g) (nI 0) (RS N S) = some (RS N (a_one (a_askT (fun j => g / 2 ^ j % 2) c (S 1 0) 0 S) c 6)) := by
  have hn := g_n h
  have e := r_askGr (N := N) (B := fun j => g / 2 ^ j % 2) hc hg (S 1 0) (1000000 - (S 1 0 + 1)) 0 S h hm (by omega) (by omega) (fun j _ _ => rfl)
  rw [fu_s (S 1 0 + 1) (by omega), ← Nat.add_assoc]
  exact e
theorem r_141 {N : j_M} {S : a_S} {c l g : Nat} (h : RG S) (hc : c < 6) (hm : S 292 c = l + 1) (hq : S 1 7 + 6 < 240) (hg : g < 64) : xX12_asks_141 (nI c) (nI g) (RS N S) = some (RS N (a_one (a_askT (fun j => g / 2 ^ j % 2) c (S 1 0) 0 S) c 6)) := by
  unfold xX12_asks_141
  exact r_146 h hc hm hq hg
theorem e_ix2 {k : Nat} (h : k < 2147483648) : ix (nI k) = k := e_ix h
theorem e_oli2 {ρ : Type} {v : Int32} {X : Int32 → Option ρ} : oli v X = X v := by simp [oli]
theorem e_obi2 {ρ : Type} {r : Int32} {M : j_M} {X : Int32 → j_M → Option ρ} : obi (some (r, M)) X = X r M := by simp [obi]
theorem r_104 {N : j_M} {S : a_S} {c l : Nat} (h : RG S) (hc : c < 6) (hl : l < 8) (hm : S 292 c = l + 1) (hq : S 1 7 + 6 < 240) : xX12_asks_104 (nI c) (RS N S) = some (RS N (a_one (a_askT (fun j => (if S 1 3 = 3 then S 6766 (8 * c + l) else 0) / 2 ^ j % 2) c (S 1 0) 0 S) c 6)) := by
  have hp := g_po h
  have hg := g_gr h (8 * c + l)
  unfold xX12_asks_104
  rw [e_gd (by omega) (by omega), e_ix2 (by omega), sr_1 (by omega), e_oli2]
  by_cases h3 : S 1 3 = 3
  · rw [if_pos (by rw [h3]), e_add, e_gd (by omega) (by omega), e_ix2 (by omega), sr_292 hc, hm, oI_s, e_oli2, m_place, e_obi2, e_add, e_gd (by omega) (by omega), e_ix2 (by omega), sr_6766 (by omega), e_oli2, r_141 h hc hm hq hg]
    simp only [h3, if_true]
  · rw [if_neg (by rw [e_eq (by omega) (by omega)]; exact h3), r_141 h hc hm hq (show 0 < 64 by omega)]
    simp only [h3, if_false]
theorem r_asks {N : j_M} {S : a_S} {c l : Nat} (h : RG S) (hc : c < 6) (hl : l < 8) (hm : S 292 c = l + 1) (hq : S 1 7 + 8 ≤ 240) : xX12_asks (nI c) (RS N S) = some (RS N (a_asks S c l)) := by
  have hn := g_n h
  have hp := g_po h
  have hi := g_4 h 526 c (by omega)
  have hh := g_hi h (8 * c + l)
  unfold a_asks
  rw [ak_6 hn]
  have eall : (S 1 3 = 0 ∨ (2 ≤ S 1 3 ∧ 1 < S 526 c)) → xX12_asks_38 (nI c) (nI 1) (RS N S) = some (RS N (a_one (a_askT (a_tg S c l) c (S 1 0) 0 S) c 6)) := by
    intro ha
    unfold xX12_asks_38 xX12_asksAll
    simp (disch := omega) only [e_gd, e_ix, e_oli, e_oml, e_obi, e_obv, e_add, e_mul, e_sub, e_eq, e_lt, e_le, e_eq0, e_0eq, e_lt0, e_0lt, e_le0, e_0le, e_m1, e_m1', e_m1lt, Nat.add_assoc, Nat.not_lt_zero, Nat.le_zero_eq]
    rw [if_neg (by omega), fu_s (S 1 0 + 1) (by omega), ← Nat.add_assoc, r_askAll hc (B := a_tg S c l) (S 1 0) _ 0 S h hm (by omega) (by omega) (fun j h1 h2 => by unfold a_tg; rw [if_neg (by omega), if_pos ha])]
    rfl
  have eone : ¬ (S 1 3 = 0 ∨ (2 ≤ S 1 3 ∧ 1 < S 526 c)) → xX12_asks_38 (nI c) (nI 0) (RS N S) = some (RS N (a_one (a_askT (a_tg S c l) c (S 1 0) 0 S) c 6)) := by
    intro ha
    have e1 := r_104 (N := N) h hc hl hm (by omega)
    unfold xX12_asks_38
    simp (disch := omega) only [m_place, e_gd, e_ix, e_oli, e_oml, e_obi, e_obv, e_add, e_mul, e_sub, e_eq, e_lt, e_le, e_eq0, e_0eq, e_lt0, e_0lt, e_le0, e_0le, e_m1, e_m1', e_m1lt, Nat.add_assoc, Nat.not_lt_zero, Nat.le_zero_eq, sr_1, sr_14, sr_70, sr_126, sr_182, sr_238, sr_244, sr_292, sr_298, sr_304, sr_310, sr_316, sr_358, sr_400, sr_442, sr_484, sr_526, sr_532, sr_538, so_586, sr_586, sr_2746, sr_2752, sr_3112, sr_3118, sr_3124, sr_3130, sr_6730, sr_6736, sr_6766, sr_6814, sr_6961, sr_6962, sr_7362, sr_7363, sr_7364, su_6961, su_7362, su_7363, hm, oI_s]
    rw [if_pos trivial]
    by_cases hp1 : S 1 3 = 1
    · have hB : a_tg S c l = fun j => if S 1 0 ≤ j then 0 else if S 538 (8 * c + l) = j + 1 then 1 else 0 := by
        funext j
        unfold a_tg
        rw [if_neg ha, if_pos hp1]
      have ez : ∀ (S' : a_S), a_askT (fun j => (if S 1 3 = 3 then S 6766 (8 * c + l) else 0) / 2 ^ j % 2) c (S 1 0) 0 S' = S' := by
        intro S'
        apply ak_z
        intro j _ _
        rw [if_neg (by omega)]
        simp
      rw [if_pos hp1]
      by_cases h0 : S 538 (8 * c + l) = 0
      · rw [if_pos (by rw [h0]; rfl), e1, ez, ak_z _ _ _ (fun j h1 h2 => by rw [hB]; simp only; rw [if_neg (by omega), if_neg (by omega)]; omega)]
      · obtain ⟨u, hu⟩ : ∃ u, S 538 (8 * c + l) = u + 1 := ⟨S 538 (8 * c + l) - 1, by omega⟩
        rw [if_neg (by rw [hu, oI_s, e_m1 (by omega)]; exact id), hu, oI_s]
        simp (disch := omega) only [e_gd, e_ix, e_oli, e_oml, e_obi, e_obv, e_add, e_mul, e_sub, e_eq, e_lt, e_le, e_eq0, e_0eq, e_lt0, e_0lt, e_le0, e_0le, e_m1, e_m1', e_m1lt, Nat.add_assoc, Nat.not_lt_zero, Nat.le_zero_eq]
        by_cases hN : S 1 0 ≤ u
        · rw [if_pos hN, e1, ez, ak_z _ _ _ (fun j h1 h2 => by rw [hB]; simp only; rw [if_neg (by omega), if_neg (by omega)]; omega)]
        · have e7 := one_7 (S := S) (c := c) (t := u)
          have e2 := r_104 (N := N) (S := a_one S c u) (RG_one h (by omega) hc (by omega)) hc hl (by rw [one_o (by omega)]; exact hm) (by omega)
          rw [one_1 (by omega), one_1 (by omega), one_o (by omega), ez] at e2
          rw [if_neg hN, r_one h (by omega) hc (by omega) hm, e_obv, e2, ak_1 (u := u) _ _ _ (by omega) (by omega) (fun j => by rw [hB]; simp only; rw [hu]; constructor <;> intro h9 <;> (repeat' split at h9) <;> first | omega | (rw [if_neg (by omega), if_pos (by omega)]))]
    · rw [if_neg hp1, e1]
      congr 3
      apply ak_c
      intro j h1 h2
      have q : a_tg S c l j = if S 1 3 = 3 then S 6766 (8 * c + l) / 2 ^ j % 2 else 0 := by
        unfold a_tg
        rw [if_neg (by omega), if_neg ha, if_neg hp1]
      rw [q]
      by_cases h3 : S 1 3 = 3
      · simp only [h3, if_true]
      · simp only [h3, if_false, Nat.zero_div, Nat.zero_mod]
  unfold xX12_asks xX12_asks_33 xX12_asks_37
  simp (disch := omega) only [e_gd, e_ix, e_oli, e_oml, e_obi, e_obv, e_add, e_mul, e_sub, e_eq, e_lt, e_le, e_eq0, e_0eq, e_lt0, e_0lt, e_le0, e_0le, e_m1, e_m1', e_m1lt, Nat.add_assoc, Nat.not_lt_zero, Nat.le_zero_eq, sr_1, sr_14, sr_70, sr_126, sr_182, sr_238, sr_244, sr_292, sr_298, sr_304, sr_310, sr_316, sr_358, sr_400, sr_442, sr_484, sr_526, sr_532, sr_538, so_586, sr_586, sr_2746, sr_2752, sr_3112, sr_3118, sr_3124, sr_3130, sr_6730, sr_6736, sr_6766, sr_6814, sr_6961, sr_6962, sr_7362, sr_7363, sr_7364, su_6961, su_7362, su_7363]
  by_cases c1 : S 1 3 = 0
  · rw [if_pos c1, eall (Or.inl c1)]
  · rw [if_neg c1]
    by_cases c2 : S 1 3 < 2
    · rw [if_pos c2, eone (by omega)]
    · rw [if_neg c2]
      by_cases c3 : S 526 c ≤ 1
      · rw [if_pos c3, eone (by omega)]
      · rw [if_neg c3, eall (by omega)]
theorem ask_o {S : a_S} {c l r i : Nat} (h : r ≠ 586 ∧ r ≠ 1 ∧ r ≠ 6814) : a_asks S c l r i = S r i := by
  unfold a_asks
  rw [one_o h, ak_o h]
theorem ask_1 {S : a_S} {c l i : Nat} (h : i ≠ 7 ∧ i ≠ 8) : a_asks S c l 1 i = S 1 i := by
  unfold a_asks
  rw [one_1 h, ak_i h]
theorem RG_asks {S : a_S} {c l : Nat} (h : RG S) (hc : c < 6) (hq : S 1 7 + 8 ≤ 240) : RG (a_asks S c l) ∧ a_asks S c l 1 7 ≤ S 1 7 + 7 := by
  have e := RG_askT (B := a_tg S c l) hc 6 0 S h (by omega) (by omega)
  have e7 := one_7 (S := a_askT (a_tg S c l) c 6 0 S) (c := c) (t := 6)
  unfold a_asks
  exact ⟨RG_one e.1 (by omega) hc (by omega), by omega⟩
/-- whether it is a hit -/
abbrev a_H (S : a_S) (c l w : Nat) : Prop := S 126 (8 * c + l) = 1 ∧ ((w = 1 ∧ 0 < S 14 (8 * c + l)) ∨ (w ≠ 1 ∧ S 14 (8 * c + l) = S 1 1))
theorem q_isHit {N : j_M} {S : a_S} {n l w : Nat} (h : RG S) (hn : n < 7) (hl : l < 8) (hw : w < 4) : xX12_isHit (nI n) (nI l) (nI w) (RS N S) = some (if a_H S n l w then nI 1 else nI 0, RS N S) :=
  r_isHit hn hl (by have := g_b h 126 (8 * n + l) (by omega); omega) (g_14 h _) (g_T h) hw
def a_hit0 (S : a_S) (c : Nat) : a_S := sw (sw S 1 9 (S 1 9 + 1)) 6736 (5 * c) (S 6736 (5 * c) + 1)
def a_hit (S : a_S) (c l w v : Nat) : a_S := a_does (a_notes (a_hit0 S c) 0 c l) c l w v
def a_mis0 (S : a_S) (c l w v : Nat) : a_S := sw (sw (sw (sw (sw (sw (sw S 292 c (l + 1)) 298 c w) 304 c v) 526 c 1) 532 c (S 1 5)) 6730 c (S 1 5)) 310 c 0
def a_mis (S : a_S) (c l w v : Nat) : a_S := a_asks (a_notes (a_mis0 S c l w v) 1 c l) c l
def a_begins (S : a_S) (c l w v : Nat) : a_S := if a_H S c l w then a_hit S c l w v else a_mis S c l w v
theorem hi0_o {S : a_S} {c r i : Nat} (h : r ≠ 1 ∧ r ≠ 6736) : a_hit0 S c r i = S r i := by
  unfold a_hit0
  rw [sw_r (by omega), sw_r (by omega)]
theorem mi0_o {S : a_S} {c l w v r i : Nat} (h : r ≠ 292 ∧ r ≠ 298 ∧ r ≠ 304 ∧ r ≠ 526 ∧ r ≠ 532 ∧ r ≠ 6730 ∧ r ≠ 310) : a_mis0 S c l w v r i = S r i := by
  unfold a_mis0
  rw [sw_r (by omega), sw_r (by omega), sw_r (by omega), sw_r (by omega), sw_r (by omega), sw_r (by omega), sw_r (by omega)]
theorem hi0_f7 {S : a_S} {c d x : Nat} : a_forget (a_hit0 S c) d x 238 d = a_forget S d x 238 d := by
  rw [fo_238, fo_238, hi0_o (by omega)]
  unfold a_used
  simp (disch := omega) only [hi0_o]
theorem RG_hit0 {S : a_S} {c : Nat} (h : RG S) : RG (a_hit0 S c) := by
  unfold a_hit0
  exact RG_sw (RG_sw h (by unfold rg; omega)) (by unfold rg; omega)
theorem RG_mis0 {S : a_S} {c l w v : Nat} (h : RG S) (hl : l < 8) (hw : w < 4) (hv : v < 10000) : RG (a_mis0 S c l w v) := by
  have ht := g_tk h
  unfold a_mis0
  exact RG_sw (RG_sw (RG_sw (RG_sw (RG_sw (RG_sw (RG_sw h (by unfold rg; omega)) (by unfold rg; omega)) (by unfold rg; omega)) (by unfold rg; omega)) (by unfold rg; omega)) (by unfold rg; omega)) (by unfold rg; omega)
theorem r_begins {N : j_M} {S : a_S} {c l w v : Nat} (h : RG S) (hq : S 1 7 + 8 ≤ 240) (hc : c < 6) (hl : l < 8) (hw : w < 4) (hv : v < 10000) (ht : S 6961 0 < 2147483000) (h7 : a_forget S c l 238 c ≤ 7) : xX12_begins (nI c) (nI l) (nI w) (nI v) (RS N S) = some (if a_H S c l w then nI 1 else nI 0, RS N (a_begins S c l w v)) := by
  unfold xX12_begins a_begins
  rw [q_isHit h (by omega) hl hw, e_obi]
  by_cases hh : a_H S c l w
  · have en := q_notes (N := N) (S := a_hit0 S c) (w := 0) (c := c) (l := l) (by rw [hi0_o (by omega)]; exact ht)
    have ed := r_does (N := N) (S := a_notes (a_hit0 S c) 0 c l) (c := c) (l := l) (w := w) (v := v) (RG_notes (RG_hit0 h)) hc hl hw hv (by rw [an_f7, hi0_f7]; exact h7)
    rw [if_pos hh, if_pos hh, if_neg (by decide)]
    unfold a_hit
    unfold a_hit0 at en ed ⊢
    simp (disch := omega) only [e_gd, e_ix, e_oli, e_oml, e_obi, e_obv, e_add, e_mul, e_sub, e_eq, e_lt, e_le, e_eq0, e_0eq, e_lt0, e_0lt, e_le0, e_0le, e_m1, e_m1', e_m1lt, Nat.add_assoc, Nat.not_lt_zero, Nat.le_zero_eq, sr_1, sr_14, sr_70, sr_126, sr_182, sr_238, sr_244, sr_292, sr_298, sr_304, sr_310, sr_316, sr_358, sr_400, sr_442, sr_484, sr_526, sr_532, sr_538, so_586, sr_586, sr_2746, sr_2752, sr_3112, sr_3118, sr_3124, sr_3130, sr_6730, sr_6736, sr_6766, sr_6814, sr_6961, sr_6962, sr_7362, sr_7363, sr_7364, su_6961, su_7362, su_7363, st_1, st_14, st_70, st_126, st_182, st_238, st_244, sm_292, so_292, st_292, st_298, st_304, st_310, st_316, st_358, st_400, st_442, st_484, st_526, st_532, sm_538, so_538, st_538, sm_586, sn_586, sp_586, st_586, st_2746, st_2752, st_3112, st_3118, st_3124, st_3130, st_6730, st_6736, st_6766, st_6814, st_6961, st_6962, st_7362, st_7363, st_7364, sv_6961, sv_7362, sv_7363, sw_r, en, ed]
  · have n7 : a_notes (a_mis0 S c l w v) 1 c l 1 7 = S 1 7 := by rw [an_o (by omega), mi0_o (by omega)]
    have nl : a_notes (a_mis0 S c l w v) 1 c l 292 c = l + 1 := by
      rw [an_o (by omega)]
      unfold a_mis0
      rw [sw_r (by omega), sw_r (by omega), sw_r (by omega), sw_r (by omega), sw_r (by omega), sw_r (by omega), sw_at]
    have en := q_notes (N := N) (S := a_mis0 S c l w v) (w := 1) (c := c) (l := l) (by rw [mi0_o (by omega)]; exact ht)
    have ea := r_asks (N := N) (S := a_notes (a_mis0 S c l w v) 1 c l) (c := c) (l := l) (RG_notes (RG_mis0 h hl hw hv)) hc hl nl (by omega)
    rw [if_neg hh, if_neg hh, if_pos (by decide)]
    unfold a_mis
    unfold a_mis0 at en ea ⊢
    simp (disch := omega) only [e_gd, e_ix, e_oli, e_oml, e_obi, e_obv, e_add, e_mul, e_sub, e_eq, e_lt, e_le, e_eq0, e_0eq, e_lt0, e_0lt, e_le0, e_0le, e_m1, e_m1', e_m1lt, Nat.add_assoc, Nat.not_lt_zero, Nat.le_zero_eq, sr_1, sr_14, sr_70, sr_126, sr_182, sr_238, sr_244, sr_292, sr_298, sr_304, sr_310, sr_316, sr_358, sr_400, sr_442, sr_484, sr_526, sr_532, sr_538, so_586, sr_586, sr_2746, sr_2752, sr_3112, sr_3118, sr_3124, sr_3130, sr_6730, sr_6736, sr_6766, sr_6814, sr_6961, sr_6962, sr_7362, sr_7363, sr_7364, su_6961, su_7362, su_7363, st_1, st_14, st_70, st_126, st_182, st_238, st_244, sm_292, so_292, st_292, st_298, st_304, st_310, st_316, st_358, st_400, st_442, st_484, st_526, st_532, sm_538, so_538, st_538, sm_586, sn_586, sp_586, st_586, st_2746, st_2752, st_3112, st_3118, st_3124, st_3130, st_6730, st_6736, st_6766, st_6814, st_6961, st_6962, st_7362, st_7363, st_7364, sv_6961, sv_7362, sv_7363, sw_r, en, ea]
