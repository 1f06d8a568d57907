/-! ===== the plan ===== -/
theorem p_kw {g : Nat → Nat} {M : j_M} (h : POK g) : xX0_keyword (nI (pcv g)) M = some (nI (g 0 - 2), M) := by
  unfold POK at h
  unfold xX0_keyword pcv
  rw [e_and, n_m15]
  congr 3
  split
  · split <;> omega
  · split <;> omega
theorem p_bd {g : Nat → Nat} (h : POK g) : g 1 ≤ 99 ∧ (g 0 ≤ 8 → g 1 < 6 ∧ g 2 < 8 ∧ g 3 < 10000) ∧ g 0 ≤ 14 ∧ 3 ≤ g 0 ∧ (g 0 = 13 → g 2 ≤ 2) := by
  unfold POK at h
  omega
theorem p_fi {g : Nat → Nat} {M : j_M} (h : POK g) : xX0_first (nI (pcv g)) M = some (nI (if g 0 ≤ 8 then g 2 else g 1), M) := by
  have hb := p_bd h
  unfold xX0_first pcv
  by_cases h8 : g 0 ≤ 8
  · have h88 := hb.2.1 h8
    rw [if_pos h8, if_pos h8]
    have e : (if g 0 = 4 ∨ g 0 = 5 then g 3 else 0) < 10000 := by split <;> omega
    generalize (if g 0 = 4 ∨ g 0 = 5 then g 3 else 0) = s at e
    rw [e_us (by omega) (by omega), e_and, n_m127]
    congr 3
    omega
  · rw [if_neg h8, if_neg h8]
    have e : (if g 0 = 13 then g 2 else 0) ≤ 2 := by split <;> omega
    generalize (if g 0 = 13 then g 2 else 0) = s at e
    rw [e_us (by omega) (by omega), e_and, n_m127]
    congr 3
    omega
theorem p_se {g : Nat → Nat} {M : j_M} (h : POK g) : xX0_second (nI (pcv g)) M = some (nI (if g 0 ≤ 8 then (if g 0 = 4 ∨ g 0 = 5 then g 3 else 0) else (if g 0 = 13 then g 2 else 0)), M) := by
  have hb := p_bd h
  unfold xX0_second pcv
  by_cases h8 : g 0 ≤ 8
  · have h88 := hb.2.1 h8
    rw [if_pos h8, if_pos h8]
    have e : (if g 0 = 4 ∨ g 0 = 5 then g 3 else 0) < 10000 := by split <;> omega
    generalize (if g 0 = 4 ∨ g 0 = 5 then g 3 else 0) = s at e
    rw [e_us (by omega) (by omega), e_and, n_m14]
    congr 3
    omega
  · rw [if_neg h8, if_neg h8]
    have e : (if g 0 = 13 then g 2 else 0) ≤ 2 := by split <;> omega
    generalize (if g 0 = 13 then g 2 else 0) = s at e
    rw [e_us (by omega) (by omega), e_and, n_m14]
    congr 3
    omega
theorem p_cpu {g : Nat → Nat} {M : j_M} (h : POK g) : xX0_cpu (nI (pcv g)) M = some (nI (if g 0 ≤ 8 then g 1 else 0), M) := by
  have hb := p_bd h
  unfold xX0_cpu pcv
  by_cases h8 : g 0 ≤ 8
  · have h88 := hb.2.1 h8
    rw [if_pos h8, if_pos h8]
    have e : (if g 0 = 4 ∨ g 0 = 5 then g 3 else 0) < 10000 := by split <;> omega
    generalize (if g 0 = 4 ∨ g 0 = 5 then g 3 else 0) = s at e
    rw [e_us (by omega) (by omega)]
    congr 3
    omega
  · rw [if_neg h8, if_neg h8]
    have e : (if g 0 = 13 then g 2 else 0) ≤ 2 := by split <;> omega
    generalize (if g 0 = 13 then g 2 else 0) = s at e
    rw [e_us (by omega) (by omega)]
    congr 3
    omega
/-- what the class does with a line, behind its reading -/
def xl_F (a fi kw : Int32) (M : j_M) : Option (Int32 × j_M) := (if kw < (nI 9) then xX6_runLine_64 1 a fi kw M else (if (nI 11) < kw then xX6_runLine_64 1 a fi kw M else obi (xX1_hasTime 2 fi M) fun v10 M9 => (if v10 = (0 : Int32) then some ((nI 0), M9) else xX6_runLine_64 1 a fi kw M9)))
theorem xl_lo {a fi kw : Int32} {M : j_M} (h : kw < nI 9) : xl_F a fi kw M = xX6_runLine_64 1 a fi kw M := by
  unfold xl_F
  rw [if_pos h]
theorem ln_op {S : a_S} {b p : Nat} (h : OKS S b) (hb : b + 100 ≤ 3000000) (hp : p < S 7362 0) : OPN (xl_F (nI (pcv (fun j => S 7364 (4 * p + j)))) (nI (if S 7364 (4 * p) ≤ 8 then S 7364 (4 * p + 2) else S 7364 (4 * p + 1))) (nI (S 7364 (4 * p) - 2))) (xX12_isDone (nI (7364 + 4 * p))) S (b + 100) := by
  have pr := h.2.1
  have ok := pr.2.2.2.2 p hp
  have hp24 : p < 24 := by have := pr.2.2.1; omega
  have hh := h.2.2.2
  have h9 := OKS_9 h
  have hq := INV_q h.1
  have se := fun M => p_se (M := M) ok
  have cp := fun M => p_cpu (M := M) ok
  have hbd := p_bd ok
  unfold POK at ok
  simp only [Nat.add_zero] at ok se cp hbd
  generalize pcv (fun j => S 7364 (4 * p + j)) = act at *
  have rd : ∀ N : j_M, xX12_isDone (nI (7364 + 4 * p)) (RS N S) = osw (nI (S 7364 (4 * p))) [((nI 3), obi (xX12_load (nI (S 7364 (4 * p + 1))) (nI (S 7364 (4 * p + 2))) (RS N S)) fun v5 M4 => (if v5 ≤ (-2 : Int32) then some ((nI 0), M4) else some ((nI 1), M4))), ((nI 4), obi (xX12_store (nI (S 7364 (4 * p + 1))) (nI (S 7364 (4 * p + 2))) (nI (S 7364 (4 * p + 3))) (RS N S)) fun v8 M7 => (if v8 = (-1 : Int32) then some ((nI 0), M7) else some ((nI 1), M7))), ((nI 5), obi (xX12_add (nI (S 7364 (4 * p + 1))) (nI (S 7364 (4 * p + 2))) (nI (S 7364 (4 * p + 3))) (RS N S)) fun v11 M10 => (if v11 = (-1 : Int32) then some ((nI 0), M10) else some ((nI 1), M10))), ((nI 6), obi (xX12_set (nI 3) (nI (S 7364 (4 * p + 1))) (RS N S)) fun v13 M12 => gz v13 (some (v13, M12))), ((nI 7), obi (xX12_set (nI 3) (nI (S 7364 (4 * p + 1))) (RS N S)) fun v15 M14 => gz v15 (some (v15, M14))), ((nI 8), obi (xX12_evict (nI (S 7364 (4 * p + 1))) (nI (S 7364 (4 * p + 2))) (RS N S)) fun v17 M16 => gz v17 (some (v17, M16))), ((nI 9), obi (xX12_deliversSome (nI (S 7364 (4 * p + 1))) (nI 0) (RS N S)) fun v19 M18 => gz v19 (some (v19, M18))), ((nI 10), obi (xX12_deliversSome (nI (S 7364 (4 * p + 1))) (nI 1) (RS N S)) fun v21 M20 => gz v21 (some (v21, M20))), ((nI 11), obi (xX12_tick (nI (S 7364 (4 * p + 1))) (RS N S)) fun v23 M22 => (if v23 = (-1 : Int32) then some ((nI 0), M22) else some ((nI 1), M22))), ((nI 12), obi (xX12_calm (nI (S 7364 (4 * p + 1))) (RS N S)) fun v25 M24 => (if v25 = (-1 : Int32) then some ((nI 0), M24) else some ((nI 1), M24))), ((nI 13), obi (xX12_go (nI (S 7364 (4 * p + 1))) (nI (S 7364 (4 * p + 2))) (RS N S)) fun v27 M26 => (if v27 = (-1 : Int32) then some ((nI 0), M26) else some ((nI 1), M26)))] (obi (xX12_set (nI 3) (nI (S 7364 (4 * p + 1))) (RS N S)) fun v29 M28 => gz v29 (some (v29, M28))) := by
    intro N
    unfold xX12_isDone
    simp (disch := omega) only [e_gd, e_ix, e_oli2, e_oml2, e_obi2, e_obv2, e_add, e_mul, e_sub, e_eq, e_lt, e_le, e_eq0, e_0eq, e_lt0, e_0lt, e_le0, e_0le, e_m1, e_m1', e_m1lt, Nat.add_assoc, Nat.not_lt_zero, Nat.le_zero_eq, sr_1, sr_14, sr_70, sr_126, sr_182, sr_238, sr_244, sr_292, sr_298, sr_304, sr_310, sr_316, sr_358, sr_400, sr_442, sr_484, sr_526, sr_532, sr_538, so_586, sr_586, sr_2746, sr_2752, sr_3112, sr_3118, sr_3124, sr_3130, sr_6730, sr_6736, sr_6766, sr_6814, sr_6961, sr_6962, sr_7362, sr_7363, sr_7364, su_6961, su_7362, su_7363]
  generalize hg0 : S 7364 (4 * p) = g0 at *
  generalize hg1 : S 7364 (4 * p + 1) = g1 at *
  generalize hg2 : S 7364 (4 * p + 2) = g2 at *
  generalize hg3 : S 7364 (4 * p + 3) = g3 at *
  have hcs : g0 = 3 ∨ g0 = 4 ∨ g0 = 5 ∨ g0 = 8 ∨ g0 = 9 ∨ g0 = 10 ∨ g0 = 11 ∨ g0 = 12 ∨ g0 = 13 ∨ g0 = 14 := by omega
  /- a load, a store, an add -/
  have hbeg : ∀ (w v : Nat), 1 ≤ w → w < 4 → v < 10000 → g0 = w + 2 → (if g0 ≤ 8 then (if g0 = 4 ∨ g0 = 5 then g3 else 0) else (if g0 = 13 then g2 else 0)) = v → (∀ N : j_M, ¬ CAN S (nI g1) (nI g2) (nI v) → xX12_isDone (nI (7364 + 4 * p)) (RS N S) = some (nI 0, RS N S)) → (∀ N : j_M, CAN S (nI g1) (nI g2) (nI v) → g1 < S 1 0 → xX12_isDone (nI (7364 + 4 * p)) (RS N S) = some (nI 1, RS N (a_begins S g1 g2 w v))) → OPN (xl_F (nI act) (nI (if g0 ≤ 8 then g2 else g1)) (nI (g0 - 2))) (xX12_isDone (nI (7364 + 4 * p))) S (b + 100) := by
    intro w v hw1 hw4 hv e0 ev hN hY
    have g8 : g0 ≤ 8 := by omega
    have hbb := hbd.2.1 g8
    have eF : ∀ N : j_M, xl_F (nI act) (nI (if g0 ≤ 8 then g2 else g1)) (nI (g0 - 2)) (XS N 2 S) = obi (xX6_begin 1 (nI g1) (nI g2) (nI w) (nI v) (XS N 2 S)) fun v23 M22 => gz v23 (some (v23, M22)) := by
      intro N
      rw [if_pos g8, xl_lo (by rw [e_lt (by omega) (by omega)]; omega)]
      unfold xX6_runLine_64
      simp (disch := omega) only [e_osw, e_osw0, e_eq]
      rw [if_neg (by omega), if_neg (by omega), if_neg (by omega), if_neg (by omega), if_neg (by omega), if_neg (by omega), if_neg (by omega), cp, e_obi2, se, e_obi2, ev, if_pos g8, show g0 - 2 = w by omega]
    by_cases hk : CAN S (nI g1) (nI g2) (nI v)
    · have hk' := hk
      obtain ⟨c, l, u, ec, hc, el, hl, eu, hu, h0⟩ := hk
      have hn := g_n h.1.1
      have hc1 : g1 = c := by rw [e_eq (by omega) (by omega)] at ec; exact ec
      have hl1 : g2 = l := by rw [e_eq (by omega) (by omega)] at el; exact el
      subst hc1
      subst hl1
      refine OPN_s (OKS_begins h hb hc hl hw1 hw4 hv) (nI 1) (fun r i a _ => st_begins a) (fun N => ?_) (fun N => hY N hk' hc)
      rw [eF]
      unfold xX6_begin
      simp only [Nat.reduceAdd]
      rw [(can_ok (N := N) (N' := N) h.1 hc hl hv h0).1, e_obi2, if_neg (by decide), x_beg h hc hl hw1 hw4 hv, e_obi2, e_obi2, e_gz1]
    · refine OPN_q (OKS_le h (by omega) hb) (nI 0) (fun N _ => ?_) (fun N => hN N hk)
      rw [eF]
      unfold xX6_begin
      simp only [Nat.reduceAdd]
      rw [(can_no (N := N) (N' := N) h.1 hk).1, e_obi2, if_pos (by decide), e_obi2, e_gz0]
  rcases hcs with e0 | e0 | e0 | e0 | e0 | e0 | e0 | e0 | e0 | e0
  · have hbb := hbd.2.1 (by omega)
    refine hbeg 1 0 (by omega) (by omega) (by omega) (by omega) (by rw [if_pos (by omega), if_neg (by omega)]) (fun N hk => ?_) (fun N hk hc => ?_)
    · rw [rd, e0, e_osw, if_pos rfl]
      unfold xX12_load
      rw [(can_no (N := N) (N' := N) h.1 hk).2, e_obi2, if_pos (by decide), e_obi2, if_pos (by decide)]
    · obtain ⟨c, l, u, ec, hc', el, hl, eu, hu, h0⟩ := hk
      have hn := g_n h.1.1
      have hc1 : g1 = c := by rw [e_eq (by omega) (by omega)] at ec; exact ec
      subst hc1
      have gd := (g_hv (OKS_begins h hb hc hbb.2.1 (show 1 ≤ 1 by omega) (by omega) (show 0 < 10000 by omega)).1.1 (8 * g1 + g2)).2.2.2
      rw [rd, e0, e_osw, if_pos rfl]
      unfold xX12_load
      rw [(can_ok (N := N) (N' := N) h.1 hc hbb.2.1 (show 0 < 10000 by omega) h0).2, e_obi2, if_neg (by decide), r_beg h hc hbb.2.1 (by omega) (by omega), e_obi2]
      by_cases hH : a_H S g1 g2 1
      · rw [if_pos hH, if_neg (by decide)]
        simp (disch := omega) only [e_gd, e_ix, e_oli2, e_oml2, e_obi2, e_obv2, e_add, e_mul, e_sub, e_eq, e_lt, e_le, e_eq0, e_0eq, e_lt0, e_0lt, e_le0, e_0le, e_m1, e_m1', e_m1lt, Nat.add_assoc, Nat.not_lt_zero, Nat.le_zero_eq, m_place, sr_1, sr_14, sr_70, sr_126, sr_182, sr_238, sr_244, sr_292, sr_298, sr_304, sr_310, sr_316, sr_358, sr_400, sr_442, sr_484, sr_526, sr_532, sr_538, so_586, sr_586, sr_2746, sr_2752, sr_3112, sr_3118, sr_3124, sr_3130, sr_6730, sr_6736, sr_6766, sr_6814, sr_6961, sr_6962, sr_7362, sr_7363, sr_7364, su_6961, su_7362, su_7363]
        rw [if_neg]
        rw [Int32.le_iff_toInt_le, nI_toInt (by omega)]
        have : (-2 : Int32).toInt = -2 := by decide
        omega
      · rw [if_neg hH, if_pos (by decide), e_obi2, if_neg (by decide)]
  · have hbb := hbd.2.1 (by omega)
    refine hbeg 2 g3 (by omega) (by omega) (by omega) (by omega) (by rw [if_pos (by omega), if_pos (by omega)]) (fun N hk => ?_) (fun N hk hc => ?_)
    · rw [rd, e0, e_osw, if_neg (by decide), e_osw, if_pos rfl]
      unfold xX12_store
      rw [(can_no (N := N) (N' := N) h.1 hk).2, e_obi2, if_pos (by decide), e_obi2, if_pos rfl]
    · obtain ⟨c, l, u, ec, hc', el, hl, eu, hu, h0⟩ := hk
      have hn := g_n h.1.1
      have hc1 : g1 = c := by rw [e_eq (by omega) (by omega)] at ec; exact ec
      subst hc1
      rw [rd, e0, e_osw, if_neg (by decide), e_osw, if_pos rfl]
      unfold xX12_store
      rw [(can_ok (N := N) (N' := N) h.1 hc hbb.2.1 hbb.2.2 h0).2, e_obi2, if_neg (by decide), r_beg h hc hbb.2.1 (by omega) hbb.2.2, e_obi2]
      by_cases hH : a_H S g1 g2 2
      · rw [if_pos hH, if_neg (by decide), e_obi2, if_neg (by decide)]
      · rw [if_neg hH, if_pos (by decide), e_obi2, if_neg (by decide)]
  · have hbb := hbd.2.1 (by omega)
    refine hbeg 3 g3 (by omega) (by omega) (by omega) (by omega) (by rw [if_pos (by omega), if_pos (by omega)]) (fun N hk => ?_) (fun N hk hc => ?_)
    · rw [rd, e0, e_osw, if_neg (by decide), e_osw, if_neg (by decide), e_osw, if_pos rfl]
      unfold xX12_add
      rw [(can_no (N := N) (N' := N) h.1 hk).2, e_obi2, if_pos (by decide), e_obi2, if_pos rfl]
    · obtain ⟨c, l, u, ec, hc', el, hl, eu, hu, h0⟩ := hk
      have hn := g_n h.1.1
      have hc1 : g1 = c := by rw [e_eq (by omega) (by omega)] at ec; exact ec
      subst hc1
      rw [rd, e0, e_osw, if_neg (by decide), e_osw, if_neg (by decide), e_osw, if_pos rfl]
      unfold xX12_add
      rw [(can_ok (N := N) (N' := N) h.1 hc hbb.2.1 hbb.2.2 h0).2, e_obi2, if_neg (by decide), r_beg h hc hbb.2.1 (by omega) hbb.2.2, e_obi2]
      by_cases hH : a_H S g1 g2 3
      · rw [if_pos hH, if_neg (by decide), e_obi2, if_neg (by decide)]
      · rw [if_neg hH, if_pos (by decide), e_obi2, if_neg (by decide)]
  · subst e0
    obtain ⟨v, S', hv01, ok', hF, hG⟩ := op_evictB (nI g1) (nI g2) h hb
    refine ⟨v, S', ok', fun N hs => ?_, fun N => ?_⟩
    · obtain ⟨N', e, s, q⟩ := hF N hs
      refine ⟨N', ?_, s, q⟩
      rw [← e, if_pos (by omega), xl_lo (by decide)]
      unfold xX6_runLine_64 xX11_evict
      rw [show (8 - 2) = 6 from rfl, e_osw, if_pos rfl, cp, e_obi2, if_pos (by omega)]
    · obtain ⟨x, e⟩ := hG N
      refine ⟨x, ?_⟩
      rw [rd, e_osw, if_neg (by decide), e_osw, if_neg (by decide), e_osw, if_neg (by decide), e_osw, if_neg (by decide), e_osw, if_neg (by decide), e_osw, if_pos rfl, e, e_obi2]
      rcases hv01 with rfl | rfl
      · exact e_gz0
      · exact e_gz1
  · subst e0
    have hr := ok.2.2.1 (Or.inl rfl)
    refine OPN_m (OKS_ds (d := 0) h hb hr.2) (if S 1 7 = 0 then nI 0 else nI 1) (fun r i a _ => st_ds a g1 S) (fun N => ?_) (fun N => ?_)
    · obtain ⟨q, e, h1, h2⟩ := x_ds (N := N) (t := 2) (b := 0) (by omega) (by omega) h.1 hr.1 hr.2 (by omega)
      rw [if_neg (by omega), xl_lo (by decide)]
      unfold xX6_runLine_64
      rw [show (9 - 2) = 7 from rfl, e_osw, if_neg (by decide), e_osw, if_pos rfl]
      simp only [Nat.reduceAdd]
      rw [e, e_obi2]
      simp (disch := omega) only [e_le0, Nat.le_zero_eq]
      by_cases h7 : S 1 7 = 0
      · rw [if_pos (h2.2 h7), if_pos h7]
      · rw [if_neg (fun e => h7 (h2.1 e)), if_neg h7]
    · obtain ⟨x, e⟩ := r_ds (b := 0) (by omega) g1 (1000000 - (g1 + 1)) 0 g1 N S h.1 (by omega) hr.2 (by omega)
      rw [show 1000000 - (g1 + 1) + g1 + 1 = fu by unfold fu; omega] at e
      refine ⟨x, ?_⟩
      rw [rd, e_osw, if_neg (by decide), e_osw, if_neg (by decide), e_osw, if_neg (by decide), e_osw, if_neg (by decide), e_osw, if_neg (by decide), e_osw, if_neg (by decide), e_osw, if_pos rfl]
      unfold xX12_deliversSome
      rw [e, e_obi2]
      by_cases h7 : S 1 7 = 0
      · rw [if_pos h7, if_pos ⟨rfl, Or.inr h7⟩, e_gz0]
      · have c1 : ¬ (0 = 0 ∧ (g1 = 0 ∨ S 1 7 = 0)) := by omega
        rw [if_neg h7, if_neg c1, e_gz1]
  · subst e0
    have hr := ok.2.2.1 (Or.inr rfl)
    refine OPN_m (OKS_ds (d := 1) h hb hr.2) (if S 1 7 = 0 then nI 0 else nI 1) (fun r i a _ => st_ds a g1 S) (fun N => ?_) (fun N => ?_)
    · obtain ⟨q, e, h1, h2⟩ := x_ds (N := N) (t := 2) (b := 1) (by omega) (by omega) h.1 hr.1 hr.2 (by omega)
      rw [if_neg (by omega), xl_lo (by decide)]
      unfold xX6_runLine_64
      rw [show (10 - 2) = 8 from rfl, e_osw, if_neg (by decide), e_osw, if_neg (by decide), e_osw, if_pos rfl]
      simp only [Nat.reduceAdd]
      rw [e, e_obi2]
      simp (disch := omega) only [e_le0, Nat.le_zero_eq]
      by_cases h7 : S 1 7 = 0
      · rw [if_pos (h2.2 h7), if_pos h7]
      · rw [if_neg (fun e => h7 (h2.1 e)), if_neg h7]
    · obtain ⟨x, e⟩ := r_ds (b := 1) (by omega) g1 (1000000 - (g1 + 1)) 0 g1 N S h.1 (by omega) hr.2 (by omega)
      rw [show 1000000 - (g1 + 1) + g1 + 1 = fu by unfold fu; omega] at e
      refine ⟨x, ?_⟩
      rw [rd, e_osw, if_neg (by decide), e_osw, if_neg (by decide), e_osw, if_neg (by decide), e_osw, if_neg (by decide), e_osw, if_neg (by decide), e_osw, if_neg (by decide), e_osw, if_neg (by decide), e_osw, if_pos rfl]
      unfold xX12_deliversSome
      rw [e, e_obi2]
      by_cases h7 : S 1 7 = 0
      · rw [if_pos h7, if_pos ⟨rfl, Or.inr h7⟩, e_gz0]
      · have c1 : ¬ (0 = 0 ∧ (g1 = 0 ∨ S 1 7 = 0)) := by omega
        rw [if_neg h7, if_neg c1, e_gz1]
  · subst e0
    have hr := ok.2.2.2.1 rfl
    have eF : ∀ N : j_M, xl_F (nI act) (nI (if 11 ≤ 8 then g2 else g1)) (nI (11 - 2)) (XS N 2 S) = if S 1 5 + g1 ≤ 9999 then some (nI 1, XS N 2 (a_tkN g1 S)) else some (nI 0, XS N 2 S) := by
      intro N
      unfold xl_F
      rw [if_neg (show ¬ 11 ≤ 8 by omega), show (11 - 2) = 9 from rfl, if_neg (show ¬ nI 9 < nI 9 by decide), if_neg (show ¬ nI 11 < nI 9 by decide), x_hasTime (by omega) (by omega), e_obi2]
      by_cases h5 : S 1 5 + g1 ≤ 9999
      · rw [if_pos h5, if_pos h5, if_neg (by decide)]
        unfold xX6_runLine_64
        rw [e_osw, if_neg (by decide), e_osw, if_neg (by decide), e_osw, if_neg (by decide), e_osw, if_pos rfl]
        simp only [Nat.reduceAdd]
        rw [x_tkN (by omega) h.1 hr.2 (by omega) (by omega), e_obv2]
      · rw [if_neg h5, if_neg h5, if_pos (by decide)]
    have eG : ∀ N : j_M, xX12_isDone (nI (7364 + 4 * p)) (RS N S) = if S 1 5 + g1 ≤ 9999 then some (nI 1, RS N (a_tkN g1 S)) else some (nI 0, RS N S) := by
      intro N
      rw [rd, e_osw, if_neg (by decide), e_osw, if_neg (by decide), e_osw, if_neg (by decide), e_osw, if_neg (by decide), e_osw, if_neg (by decide), e_osw, if_neg (by decide), e_osw, if_neg (by decide), e_osw, if_neg (by decide), e_osw, if_pos rfl, rt_ok h hr.1 hr.2]
      by_cases h5 : S 1 5 + g1 ≤ 9999
      · rw [if_pos h5, if_pos h5, e_obi2, f_m1 (by omega)]
      · rw [if_neg h5, if_neg h5, e_obi2, if_pos rfl]
    by_cases h5 : S 1 5 + g1 ≤ 9999
    · exact OPN_s (OKS_le (OKS_tkN h h5) (by omega) hb) (nI 1) (fun r i a b => st_tkN a b g1 S) (fun N => by rw [eF, if_pos h5]) (fun N => by rw [eG, if_pos h5])
    · exact OPN_q (OKS_le h (by omega) hb) (nI 0) (fun N _ => by rw [eF, if_neg h5]) (fun N => by rw [eG, if_neg h5])
  · subst e0
    have hr := ok.2.2.2.2.1 (Or.inl rfl)
    have eF : ∀ N : j_M, xl_F (nI act) (nI (if 12 ≤ 8 then g2 else g1)) (nI (12 - 2)) (XS N 2 S) = if S 1 5 + g1 ≤ 9999 then some (nI 1, XS N 2 (a_cR g1 S)) else some (nI 0, XS N 2 S) := by
      intro N
      unfold xl_F
      rw [if_neg (show ¬ 12 ≤ 8 by omega), show (12 - 2) = 10 from rfl, if_neg (show ¬ nI 10 < nI 9 by decide), if_neg (show ¬ nI 11 < nI 10 by decide), x_hasTime (by omega) (by omega), e_obi2]
      by_cases h5 : S 1 5 + g1 ≤ 9999
      · rw [if_pos h5, if_pos h5, if_neg (by decide)]
        unfold xX6_runLine_64
        rw [e_osw, if_neg (by decide), e_osw, if_neg (by decide), e_osw, if_neg (by decide), e_osw, if_neg (by decide), e_osw, if_pos rfl]
        simp only [Nat.reduceAdd]
        rw [x_calm (by omega) h.1 hr.2 (by omega) (by omega), e_obi2]
      · rw [if_neg h5, if_neg h5, if_pos (by decide)]
    have ck : ∀ m (T : a_S), a_cK m T ≤ 2000 * m := by
      intro m
      induction m with
      | zero => intro T; exact Nat.le_refl _
      | succ m ih =>
        intro T
        rw [cK_s]
        have := ih (a_calm1 T)
        have := cN_le 2000 T
        omega
    have ck1 := ck g1 S
    have eG : ∀ N : j_M, ∃ x, xX12_isDone (nI (7364 + 4 * p)) (RS N S) = if S 1 5 + g1 ≤ 9999 then some (nI 1, RS (w4 N x) (a_cR g1 S)) else some (nI 0, RS N S) := by
      intro N
      obtain ⟨x, e⟩ := rc_ok (N := N) h hr.1 hr.2
      refine ⟨x, ?_⟩
      rw [rd, e_osw, if_neg (by decide), e_osw, if_neg (by decide), e_osw, if_neg (by decide), e_osw, if_neg (by decide), e_osw, if_neg (by decide), e_osw, if_neg (by decide), e_osw, if_neg (by decide), e_osw, if_neg (by decide), e_osw, if_neg (by decide), e_osw, if_pos rfl, e]
      by_cases h5 : S 1 5 + g1 ≤ 9999
      · rw [if_pos h5, if_pos h5, e_obi2, f_m1 (by omega)]
      · rw [if_neg h5, if_neg h5, e_obi2, if_pos rfl]
    by_cases h5 : S 1 5 + g1 ≤ 9999
    · refine OPN_m (OKS_le (OKS_cR h h5) (by omega) hb) (nI 1) (fun r i a b => st_cR a b g1 S) (fun N => by rw [eF, if_pos h5]) (fun N => ?_)
      obtain ⟨x, e⟩ := eG N
      exact ⟨x, by rw [e, if_pos h5]⟩
    · refine OPN_q (OKS_le h (by omega) hb) (nI 0) (fun N _ => by rw [eF, if_neg h5]) (fun N => ?_)
      obtain ⟨x, e⟩ := eG N
      rw [e, if_neg h5]
  · subst e0
    have hr := ok.2.2.2.2.1 (Or.inr rfl)
    have ho := ok.2.2.2.2.2.1 rfl
    have eG : ∀ N : j_M, ∃ x, xX12_isDone (nI (7364 + 4 * p)) (RS N S) = if S 1 5 + g1 ≤ 9999 then some (nI 1, RS (w4 N x) (a_goN g2 g1 S)) else some (nI 0, RS N S) := by
      intro N
      obtain ⟨x, e⟩ := rg_ok (N := N) h hr.1 hr.2 ho
      refine ⟨x, ?_⟩
      rw [rd, e_osw, if_neg (by decide), e_osw, if_neg (by decide), e_osw, if_neg (by decide), e_osw, if_neg (by decide), e_osw, if_neg (by decide), e_osw, if_neg (by decide), e_osw, if_neg (by decide), e_osw, if_neg (by decide), e_osw, if_neg (by decide), e_osw, if_neg (by decide), e_osw, if_pos rfl, e]
      by_cases h5 : S 1 5 + g1 ≤ 9999
      · have gg := OK_goN (o := g2) g1 S h.1 h.2.1 (by omega)
        rw [if_pos h5, if_pos h5, e_obi2, f_m1 (by omega)]
      · rw [if_neg h5, if_neg h5, e_obi2, if_pos rfl]
    by_cases h5 : S 1 5 + g1 ≤ 9999
    · refine ⟨nI 1, a_goN g2 g1 S, OKS_le (OKS_goN h h5) (by omega) hb, fun N hs => ?_, fun N => ?_⟩
      · obtain ⟨N', e, s, q⟩ := y_go ho hs h.1 h.2.1 hr.2 (by omega) (by omega)
        refine ⟨N', ?_, s, q⟩
        unfold xl_F
        rw [if_neg (show ¬ 13 ≤ 8 by omega), show (13 - 2) = 11 from rfl, if_neg (show ¬ nI 11 < nI 9 by decide), if_neg (show ¬ nI 11 < nI 11 by decide), x_hasTime (by omega) (by omega), e_obi2, if_pos h5, if_neg (by decide)]
        unfold xX6_runLine_64
        rw [e_osw, if_neg (by decide), e_osw, if_neg (by decide), e_osw, if_neg (by decide), e_osw, if_neg (by decide), e_osw, if_neg (by decide), e_osw, if_pos rfl, se, e_obi2, if_neg (show ¬ 13 ≤ 8 by omega), if_pos rfl, e, e_obi2]
      · obtain ⟨x, e⟩ := eG N
        exact ⟨x, by rw [e, if_pos h5]⟩
    · refine OPN_q (OKS_le h (by omega) hb) (nI 0) (fun N _ => ?_) (fun N => ?_)
      · unfold xl_F
        rw [if_neg (show ¬ 13 ≤ 8 by omega), show (13 - 2) = 11 from rfl, if_neg (show ¬ nI 11 < nI 9 by decide), if_neg (show ¬ nI 11 < nI 11 by decide), x_hasTime (by omega) (by omega), e_obi2, if_neg h5, if_pos (by decide)]
      · obtain ⟨x, e⟩ := eG N
        rw [e, if_neg h5]
  · subst e0
    have hr := ok.2.2.2.2.2.2 rfl
    refine ⟨nI 1, sw S 1 3 g1, OKS_par h hb (Or.inr (Or.inl ⟨rfl, hr⟩)), fun N hs => ⟨N, ?_, ?_, sce_r⟩, fun N => ⟨N 204, ?_⟩⟩
    · unfold xl_F
      rw [if_neg (show ¬ 14 ≤ 8 by omega), show (14 - 2) = 12 from rfl, if_neg (show ¬ nI 12 < nI 9 by decide), if_pos (show nI 11 < nI 12 by decide)]
      unfold xX6_runLine_64
      rw [e_osw, if_neg (by decide), e_osw, if_neg (by decide), e_osw, if_neg (by decide), e_osw, if_neg (by decide), e_osw, if_neg (by decide), e_osw, if_neg (by decide), e_osw, if_pos rfl]
      simp only [Nat.reduceAdd]
      rw [x_pol (by omega), if_pos hr, e_obi2, e_gz1]
    · unfold SCP at hs ⊢
      simp (disch := omega) only [sw_r, sw_i]
      exact hs
    · rw [w4_id, rd, e_osw, if_neg (by decide), e_osw, if_neg (by decide), e_osw, if_neg (by decide), e_osw, if_neg (by decide), e_osw, if_neg (by decide), e_osw, if_neg (by decide), e_osw, if_neg (by decide), e_osw, if_neg (by decide), e_osw, if_neg (by decide), e_osw, if_neg (by decide), e_osw, if_neg (by decide), e_osw0, r_set3 (by omega), if_pos hr, e_obi2, e_gz1]
