/-! ===== the class: access, ask for good, ticks ===== -/
def px (r i : Nat) : Prop := ¬ (r = 1 ∧ (i = 6 ∨ i = 9 ∨ i = 10 ∨ i = 11))
theorem CP_px : CP px := by
  unfold CP px
  refine ⟨fun r i h => ?_, by omega, by omega, by omega, by omega, fun r i j h1 h => by omega, fun _ => ⟨by omega, by omega⟩, fun _ => by omega, fun _ => ⟨by omega, by omega⟩⟩
  unfold cor at h
  omega
theorem xs_ag {N : j_M} {t : Nat} {A B : a_S} (h : ag px A B) : XS N t A = XS N t B := by
  funext x j
  unfold XS
  by_cases hr : t ≤ x ∧ x < t + 20 ∧ cl (x - t) ≤ j ∧ j < ch (x - t)
  · rw [if_pos hr, if_pos hr]
    refine cv_c (by omega) (fun r y hc => h r y ?_)
    rintro ⟨rfl, hy⟩
    have h0 : x - t = 0 → j < 15 := fun h0 => by have := hr.2.2.2; rw [h0] at this; exact this
    simp only [cu, cu1, Nat.reduceEqDiff, false_and, and_false, or_false, false_or, true_and] at hc
    omega
  · rw [if_neg hr, if_neg hr]
theorem ag_refl {P : Nat → Nat → Prop} {S : a_S} : ag P S S := fun _ _ _ => rfl
theorem x_access {N : j_M} {t c l w v : Nat} {S : a_S} (ht : t ≠ 0) (hi : INV S z0) (hc : c < S 1 0) (hl : l < 8) (hw1 : 1 ≤ w) (hw : w < 4) (hv0 : v < 10000) (h9 : S 6961 0 < 2147482000) : xX1_access t (nI c) (nI l) (nI w) (nI v) (XS N t S) = some (if a_H S c l w then nI (S 182 (8 * c + l)) else -1, XS N t (a_begins S c l w v)) := by
  have hn := g_n hi.1
  have hc6 : c < 6 := by omega
  have hb := bk_le c
  have hq := INV_q hi
  have htk := g_tk hi.1
  have hT := TK_le hi (show c < 7 by omega) hl
  unfold xX1_access a_begins
  rw [x_wouldHit hi.1 (by omega) hl hw (by omega), e_obi2]
  by_cases hh : a_H S c l w
  · rw [if_pos hh, if_pos hh, if_pos hh, if_neg (by decide)]
    have r1 : RG (sw S 6736 (5 * c) (S 6736 (5 * c) + 1)) := RG_sw hi.1 (by unfold rg; omega)
    have en := x_note (N := N) (t := t) (w := 0) (c := c) (l := l) (tk := S 1 5) (S := sw S 6736 (5 * c) (S 6736 (5 * c) + 1)) ht (by omega) (by omega) hl (by rw [sw_r (by omega)]) (by rw [sw_r (by omega)]; exact htk) (by rw [sw_r (by omega)]; omega)
    have ep := x_perform (N := N) (t := t) (w := w) (v := v) (S := a_notes (sw S 6736 (5 * c) (S 6736 (5 * c) + 1)) 0 c l) ht (RG_notes r1) (UD_c hi.2.1 (fun i => by rw [an_o (by omega), sw_r (by omega)]) (fun i => by rw [an_o (by omega), sw_r (by omega)])) hc6 hl hw hv0 (by rw [an_o (by omega), sw_r (by omega)]; exact hh.1)
    rw [an_o (by omega), sw_r (by omega)] at ep
    have fin : XS N t (a_does (a_notes (sw S 6736 (5 * c) (S 6736 (5 * c) + 1)) 0 c l) c l w v) = XS N t (a_hit S c l w v) := by
      refine xs_ag (ag_does CP_px (ag_notes CP_px ?_))
      unfold a_hit0
      refine ag_sw (fun r i hp => ?_) (fun _ => rfl)
      rw [sw_ne (fun e => hp ⟨e.1, by omega⟩)]
    rw [fin] at ep
    simp (disch := omega) only [e_gd, e_ix, e_oli2, e_oml2, e_obi2, e_obv2, e_add, e_mul, e_sub, e_eq, e_lt, e_le, e_eq0, e_0eq, e_lt0, e_0lt, e_le0, e_0le, e_m1, e_m1', e_m1lt, Nat.add_assoc, Nat.not_lt_zero, Nat.le_zero_eq, Nat.reduceAdd, xr_4, xr_5, xr_6, xr_7, xr_13, xr_14, xr_3, xr_10, xr_11, xr_12, xr_15, xr_16, xr_17, xr_18, xr_19, xr_0_8, xr_0_9, xr_0_10, xr_0_11, xr_0_12, xr_0_13, xr_0_14, xr_8_11, xr_8_12, xr_8_13, xr_8_14, xr_h, xr_e, xr_u, xr_m, xr_2, xr_9, xw_4, xw_5, xw_6, xw_7, xw_13, xw_14, xw_3, xm_3, xw_10, xw_11, xw_12, xw_15, xw_16, xw_17, xw_18, xw_19, xw_0_8, xw_0_9, xw_0_10, xw_0_11, xw_0_12, xw_0_13, xw_0_14, xw_8_11, xw_8_12, xw_8_13, xw_8_14, xw_h, xw_e, sw_r, en, ep]
  · rw [if_neg hh, if_neg hh, if_neg hh, if_pos (by decide), x_blk (by omega), e_obi2, s_of hw hl hv0, e_obi2]
    have ew : mw (XS N t S) (t + 1) (bk c + 15) (nI (mvv w l 0 v)) = XS N t (sw (sw (sw (sw S 292 c (l + 1)) 298 c w) 304 c v) 310 c 0) := by
      refine xw_m ht hc6 ?_ (fun r x hx => by rw [sw_ne (by omega), sw_ne (by omega), sw_ne (by omega), sw_ne (by omega)])
      unfold msv
      simp (disch := omega) only [sw_r, sw_at]
      rw [if_neg (by omega), Nat.add_sub_cancel]
    have em : sw (sw (sw (sw (sw (sw (sw S 292 c (l + 1)) 298 c w) 304 c v) 310 c 0) 526 c 1) 532 c (S 1 5)) 6730 c (S 1 5) = a_mis0 S c l w v := by
      unfold a_mis0
      rw [sw_comm (r := 310) (r' := 526) (by omega), sw_comm (r := 310) (r' := 532) (by omega), sw_comm (r := 310) (r' := 6730) (by omega)]
    have at' := mi0_at (S := S) (c := c) (l := l) (w := w) (v := v)
    have rm := RG_mis0 (c := c) (l := l) (w := w) (v := v) hi.1 hl hw hv0
    have o1 : ∀ i, a_mis0 S c l w v 1 i = S 1 i := fun i => mi0_o (by omega)
    have en := x_note (N := N) (t := t) (w := 1) (c := c) (l := l) (tk := S 1 5) (S := a_mis0 S c l w v) ht (by omega) (by omega) hl (by rw [o1]) (by rw [o1]; exact htk) (by rw [mi0_o (by omega)]; omega)
    have ea := x_ask (N := N) (t := t) (c := c) (l := l) (S := a_notes (a_mis0 S c l w v) 1 c l) ht (RG_notes rm) (VM_c hi.2.2.2.1 (fun i => by rw [an_o (by omega), mi0_o (by omega)]) (by rw [an_o (by omega), o1]) (by rw [an_o (by omega), o1])) (by rw [mq_c (S := S) (fun i => by rw [an_o (by omega), mi0_o (by omega)]) (by rw [an_o (by omega), o1])]; exact hi.2.2.2.2.2.1.1) (HG_c hi.2.2.2.2.2.2.2.2.1 (fun i => by rw [an_o (by omega), mi0_o (by omega)]) (fun i => by rw [an_o (by omega), mi0_o (by omega)])) hc6 hl (by rw [an_o (by omega), o1]; omega) (by rw [an_o (by omega)]; exact at'.1) (by rw [an_o (by omega), at'.2.2.2.2.1]; exact Nat.le_refl _)
    have fin : a_asks (a_notes (a_mis0 S c l w v) 1 c l) c l = a_mis S c l w v := rfl
    rw [fin] at ea
    simp (disch := omega) only [e_gd, e_ix, e_oli2, e_oml2, e_obi2, e_obv2, e_add, e_mul, e_sub, e_eq, e_lt, e_le, e_eq0, e_0eq, e_lt0, e_0lt, e_le0, e_0le, e_m1, e_m1', e_m1lt, Nat.add_assoc, Nat.not_lt_zero, Nat.le_zero_eq, Nat.reduceAdd, xr_4, xr_5, xr_6, xr_7, xr_13, xr_14, xr_3, xr_10, xr_11, xr_12, xr_15, xr_16, xr_17, xr_18, xr_19, xr_0_8, xr_0_9, xr_0_10, xr_0_11, xr_0_12, xr_0_13, xr_0_14, xr_8_11, xr_8_12, xr_8_13, xr_8_14, xr_h, xr_e, xr_u, xr_m, xr_2, xr_9, ew, xw_4, xw_5, xw_6, xw_7, xw_13, xw_14, xw_3, xm_3, xw_10, xw_11, xw_12, xw_15, xw_16, xw_17, xw_18, xw_19, xw_0_8, xw_0_9, xw_0_10, xw_0_11, xw_0_12, xw_0_13, xw_0_14, xw_8_11, xw_8_12, xw_8_13, xw_8_14, xw_h, xw_e, sw_r, em, o1, en, ea]
theorem at_sw {c k l wh r i v : Nat} (h : r ≠ 586 ∧ r ≠ 6814 ∧ r ≠ 1 ∧ r ≠ 316) : ∀ (m to : Nat) (S : a_S), a_tells c k l wh m to (sw S r i v) = sw (a_tells c k l wh m to S) r i v
  | 0, _, _ => rfl
  | m + 1, to, S => by
    unfold a_tells
    rw [sw_r (show 1 ≠ r from fun e => h.2.2.1 e.symm), sw_r (show 316 ≠ r from fun e => h.2.2.2 e.symm)]
    split
    · rw [as_sw (by omega), at_sw h m]
    · rw [at_sw h m]
theorem x_afg {N : j_M} {t c l : Nat} {S : a_S} (ht : t ≠ 0) (h : RG S) (hu : UD S) (hq : S 1 7 ≤ 230) (hc : c < 6) (hl : l < 8) (hm : S 292 c = l + 1) (hg0 : S 310 c = 0) (h9 : S 6961 0 < 2147483000) (hs : S 316 (6 * c + c) < 10100) : xX1_askForGood t (nI c) (XS N t S) = some (XS N t (a_afg S c l)) := by
  have hb := bk_le c
  have g := g_mv h c
  have ge := g_ev h (6 * c + c)
  have htk := g_tk h
  have e34 : ∀ w, w = (if S 298 c = 1 then 1 else 2) → xX1_askForGood_34 t (nI c) (nI (bk c)) (nI (msv S c)) (nI l) (nI w) (XS N t S) = some (XS N t (a_afg S c l)) := by
    intro w hw
    have hw4 : w < 4 := by rw [hw]; split <;> omega
    have r1 := RG_afg1 (c := c) (l := l) (w := w) h hs hl hw4
    have ew := xw_e (N := N) (t := t) (n := c) (c := c) (a := 1) (m := 0) (w := w) (l := l) (s := S 316 (6 * c + c) + 1) (S := S) ht (by omega) hc
    have e1 : se5 S (6 * c + c) 1 0 w l (S 316 (6 * c + c) + 1) = a_afg1 S c l w := rfl
    rw [e1] at ew
    have o1 : ∀ r i, r ≠ 316 → r ≠ 358 → r ≠ 400 → r ≠ 442 → r ≠ 484 → a_afg1 S c l w r i = S r i := fun r i a b d e f => af1_o ⟨a, b, d, e, f⟩
    have r2 : RG (sw (a_afg1 S c l w) 6736 (5 * c + 4) (S 6736 (5 * c + 4) + 1)) := RG_sw r1 (by unfold rg; omega)
    have en := x_note (N := N) (t := t) (w := 3) (c := c) (l := l) (tk := S 1 5) (S := sw (a_afg1 S c l w) 6736 (5 * c + 4) (S 6736 (5 * c + 4) + 1)) ht (by omega) (by omega) hl (by rw [sw_r (by omega), af1_o (by omega)]) (by rw [sw_r (by omega), af1_o (by omega)]; exact htk) (by rw [sw_r (by omega), af1_o (by omega)]; exact h9)
    rw [an_sw (by omega)] at en
    have r3 : RG (sw (a_notes (a_afg1 S c l w) 3 c l) 6736 (5 * c + 4) (S 6736 (5 * c + 4) + 1)) := RG_sw (RG_notes r1) (by unfold rg; omega)
    have s3 : sw (a_notes (a_afg1 S c l w) 3 c l) 6736 (5 * c + 4) (S 6736 (5 * c + 4) + 1) 316 (6 * c + c) = S 316 (6 * c + c) + 1 := by
      rw [sw_r (by omega), an_o (by omega)]
      unfold a_afg1
      rw [sw_r (by omega), sw_r (by omega), sw_r (by omega), sw_r (by omega), sw_at]
    have q3 : sw (a_notes (a_afg1 S c l w) 3 c l) 6736 (5 * c + 4) (S 6736 (5 * c + 4) + 1) 1 7 = S 1 7 := by rw [sw_r (by omega), an_o (by omega), af1_o (by omega)]
    have et := x_tellsAll (N := N) (t := t) (k := 4) (wh := w) (sq := S 316 (6 * c + c) + 1) (S := sw (a_notes (a_afg1 S c l w) 3 c l) 6736 (5 * c + 4) (S 6736 (5 * c + 4) + 1)) ht r3 hc (Or.inl rfl) hl hw4 s3 (by omega)
    rw [at_sw (by omega)] at et
    have f2 : a_tells c 4 l w 7 0 (a_notes (a_afg1 S c l w) 3 c l) = a_afg2 S c l w := rfl
    rw [f2] at et
    have em : mw (XS N t (sw (a_afg2 S c l w) 6736 (5 * c + 4) (S 6736 (5 * c + 4) + 1))) (t + 1) (bk c + 15) (nI (mvv (S 298 c) l 1 (S 304 c))) = XS N t (sw (sw (a_afg2 S c l w) 6736 (5 * c + 4) (S 6736 (5 * c + 4) + 1)) 310 c 1) := by
      refine xw_m ht hc ?_ (fun r x hx => sw_ne (by omega))
      unfold msv
      simp (disch := omega) only [sw_at, sw_r, af2_o, hm, Nat.add_sub_cancel]
      rw [if_neg (by omega)]
    have g3 := RG_afg3 (c := c) (l := l) (w := w) h (by omega) hc hs hl hw4
    have fin : XS N t (a_settles (sw (sw (a_afg2 S c l w) 6736 (5 * c + 4) (S 6736 (5 * c + 4) + 1)) 310 c 1) c l) = XS N t (a_afg S c l) := by
      unfold a_afg
      rw [← hw]
      refine xs_ag (ag_settles CP_px (fun r i hp => ?_))
      unfold a_afg3
      unfold px at hp
      unfold sw
      (repeat' split) <;> first | rfl | (exfalso; omega)
    have g4 : RG (sw (sw (a_afg2 S c l w) 6736 (5 * c + 4) (S 6736 (5 * c + 4) + 1)) 310 c 1) := RG_sw (RG_sw (RG_afg2 h (by omega) hc hs hl hw4).1 (by unfold rg; omega)) (by unfold rg; omega)
    have u4 : UD (sw (sw (a_afg2 S c l w) 6736 (5 * c + 4) (S 6736 (5 * c + 4) + 1)) 310 c 1) := UD_c hu (fun i => by rw [sw_r (by omega), sw_r (by omega), af2_o (by omega)]) (fun i => by rw [sw_r (by omega), sw_r (by omega), af2_o (by omega)])
    have q4 : sw (sw (a_afg2 S c l w) 6736 (5 * c + 4) (S 6736 (5 * c + 4) + 1)) 310 c 1 1 7 < 240 := by
      rw [sw_r (by omega), sw_r (by omega)]
      have := (RG_afg2 (c := c) (l := l) (w := w) h (by omega) hc hs hl hw4).2
      omega
    have es := x_settle (N := N) (t := t) (nd := c) (l := l) ht g4 u4 q4 (by omega) hl
    rw [fin] at es
    have eo : nI (msv S c) ||| nI 32 = nI (mvv (S 298 c) l 1 (S 304 c)) := by
      rw [msv_l hm]
      unfold mvv
      rw [e_or, n_o32]
      congr 1
      omega
    have ec : nI w ||| nI ((S 316 (6 * c + c) + 1) * 2 ^ 2) = nI (w + 4 * (S 316 (6 * c + c) + 1)) := by
      rw [e_or, n_or 2 (by omega) (by omega)]
      congr 1
      omega
    have ev1 := v_active (M := XS N t S) (w := w) (l := l) (s := S 316 (6 * c + c) + 1) hw4 hl (by omega)
    have es1 := es_ (M := XS N t S) (i := 6 * c + c) h
    have esh : nI (S 316 (6 * c + c) + 1) <<< (nI 2 &&& 31) = nI ((S 316 (6 * c + c) + 1) * 2 ^ 2) := e_shl (by omega) (by omega)
    unfold xX1_askForGood_34
    simp (disch := omega) only [e_gd, e_ix, e_oli2, e_oml2, e_obi2, e_obv2, e_add, e_mul, e_sub, e_eq, e_lt, e_le, e_eq0, e_0eq, e_lt0, e_0lt, e_le0, e_0le, e_m1, e_m1', e_m1lt, Nat.add_assoc, Nat.not_lt_zero, Nat.le_zero_eq, Nat.reduceAdd, xr_4, xr_5, xr_6, xr_7, xr_13, xr_14, xr_3, xr_10, xr_11, xr_12, xr_15, xr_16, xr_17, xr_18, xr_19, xr_0_8, xr_0_9, xr_0_10, xr_0_11, xr_0_12, xr_0_13, xr_0_14, xr_8_11, xr_8_12, xr_8_13, xr_8_14, xr_h, xr_e, xr_u, xr_m, xr_2, xr_9, es1, ev1, ew, o1, xw_4, xw_5, xw_6, xw_7, xw_13, xw_14, xw_3, xm_3, xw_10, xw_11, xw_12, xw_15, xw_16, xw_17, xw_18, xw_19, xw_0_8, xw_0_9, xw_0_10, xw_0_11, xw_0_12, xw_0_13, xw_0_14, xw_8_11, xw_8_12, xw_8_13, xw_8_14, xw_h, xw_e, sw_r, en, esh, ec, et, eo, em, es]
  unfold xX1_askForGood
  rw [x_blk (by omega), e_obi2]
  simp (disch := omega) only [e_gd, e_ix, e_oli2, e_oml2, e_obi2, e_obv2, e_add, e_mul, e_sub, e_eq, e_lt, e_le, e_eq0, e_0eq, e_lt0, e_0lt, e_le0, e_0le, e_m1, e_m1', e_m1lt, Nat.add_assoc, Nat.not_lt_zero, Nat.le_zero_eq, Nat.reduceAdd, xr_4, xr_5, xr_6, xr_7, xr_13, xr_14, xr_3, xr_10, xr_11, xr_12, xr_15, xr_16, xr_17, xr_18, xr_19, xr_0_8, xr_0_9, xr_0_10, xr_0_11, xr_0_12, xr_0_13, xr_0_14, xr_8_11, xr_8_12, xr_8_13, xr_8_14, xr_h, xr_e, xr_u, xr_m, xr_2, xr_9]
  have sl := s_line (M := XS N t S) (w := S 298 c) (l := l) (g := S 310 c) (v := S 304 c) g.1 hl g.2.1 g.2.2.1
  have sh := s_what (M := XS N t S) (w := S 298 c) (l := l) (g := S 310 c) (v := S 304 c) g.1
  rw [← msv_l hm] at sl sh
  rw [sl, e_obi2, sh, e_obi2, f_eq (by omega) (by omega)]
  by_cases w1 : S 298 c = 1
  · rw [if_pos w1, e34 1 (by rw [if_pos w1])]
  · rw [if_neg w1, e34 2 (by rw [if_neg w1])]
