/-! ===== text: the plan ===== -/
def TLO (Mc Mr : j_M) (X : Option (Int32 × j_M)) : Prop :=
  (∃ (Mc' Mr' : j_M) (s : Nat) (Q : Nat → Nat), X = some (nI s, Mc') ∧ s ≤ 24 ∧ Mc' 28 5 = nI 0 ∧ Mc' 28 6 = -1 ∧ (∀ i, i < s → POK (fun j => Q (4 * i + j)) ∧ Mc' 30 i = nI (pcv (fun j => Q (4 * i + j)))) ∧ CFR Mc Mc' ∧ xX12_readsPlan Mr = some (nI 1, Mr') ∧ Mr' 200 16 = nI s ∧ (∀ j, j < 4 * s → Mr' 206 j = nI (Q j)) ∧ RFR Mr Mr') ∨
  (∃ Mc' Mr' f q, X = some (-1, Mc') ∧ CF Mc' f q ∧ CFR Mc Mc' ∧ xX12_readsPlan Mr = some (nI 0, Mr') ∧ RF Mr' f q ∧ RFR Mr Mr')
theorem t_plan {Mc Mr : j_M} {T : Nat → Nat} {n : Nat} (h1 : TC Mc T n) (h2 : CST Mc) (h3 : Mc 28 5 = nI 0) (h4 : Mc 28 6 = -1) (g1 : TR Mr T n) (g2 : Mr 200 23 = nI 1) : TLO Mc Mr (xX8_readPlan Mc) := by
  obtain ⟨k, v, pl, nx, hx⟩ := LEX_ex T n 0
  have hn := h1.1
  have eC : xX8_readPlan Mc = xX8_readPlan_8 fu (nI 1) (nI 0) (mw (mw (mw Mc 28 9 (nI 0)) 28 7 (nI 0)) 28 8 (nI 0)) := by
    unfold xX8_readPlan xX8_startReading
    rw [e_oml2, e_oml2, e_oml2, e_obv2]
  have fC : CFR Mc (mw (mw (mw Mc 28 9 (nI 0)) 28 7 (nI 0)) 28 8 (nI 0)) := ⟨fun x a _ _ _ => by rw [mw_oth a, mw_oth a, mw_oth a], fun j a => by rw [mw_ne (by omega), mw_ne (by omega), mw_ne (by omega)]⟩
  have c7 : mw (mw (mw Mc 28 9 (nI 0)) 28 7 (nI 0)) 28 8 (nI 0) 28 7 = nI 0 := by rw [mw_ne (by omega), mw_at (by omega)]
  have cS : CS (mw (mw (mw Mc 28 9 (nI 0)) 28 7 (nI 0)) 28 8 (nI 0)) T n 0 := by
    refine ⟨⟨h1.1, ?_, fun i hi => ?_⟩, ?_, ?_, Nat.zero_le _, ?_⟩
    · rw [fC.2 4 (by omega)]; exact h1.2.1
    · rw [fC.1 29 (by omega) (by omega) (by omega) (by omega)]; exact h1.2.2 i hi
    · rw [mw_ne (by omega), mw_ne (by omega), mw_at (by omega)]
    · rw [mw_ne (by omega), mw_ne (by omega), mw_ne (by omega), h3]
    · rw [mw_ne (by omega), mw_ne (by omega), mw_ne (by omega), h4]
  rw [eC]
  generalize mw (mw (mw Mc 28 9 (nI 0)) 28 7 (nI 0)) 28 8 (nI 0) = Mc1 at *
  have gT : TR (mw (mw Mr 200 16 (nI 0)) 200 12 (nI 0)) T n := by
    refine ⟨g1.1, ?_, fun i hi => ?_⟩
    · rw [mw_ne (by omega), mw_ne (by omega)]; exact g1.2.1
    · rw [mw_oth (by omega), mw_oth (by omega)]; exact g1.2.2 i hi
  obtain ⟨Mr1, e1, t1⟩ := r_goesOn (f := 1) gT (mw_at (by omega)) (by rw [mw_ne (by omega), mw_ne (by omega), g2]) (by omega) (Nat.zero_le _) hx
  have eR : xX12_readsPlan Mr = xX12_readsPlan_14 fu Mr1 := by
    unfold xX12_readsPlan
    rw [e_oml2, e_oml2, e1, e_obv2]
  obtain ⟨q1, q2, q3, q4, q5, q6⟩ := t1
  have hb := LEX_b hx (Nat.zero_le n)
  have rT : RT Mr1 T n 1 k v pl nx := by
    refine ⟨⟨g1.1, ?_, fun i hi => ?_⟩, ?_, by omega, hb.2.2.2.1, q1, q2, q3, q4⟩
    · rw [q6 11 (by omega)]; exact gT.2.1
    · rw [q5 205 (by omega)]; exact gT.2.2 i hi
    · rw [q6 23 (by omega), mw_ne (by omega), mw_ne (by omega), g2]
  have fR : RFR Mr Mr1 := ⟨fun x a _ _ => by rw [q5 x a, mw_oth a, mw_oth a], fun j a => by rw [q6 j (by omega), mw_ne (by omega), mw_ne (by omega)]⟩
  have hp := pl_both (gc := 999998 - n) (gr := 999999 - n) n Mc1 Mr1 0 0 (fun _ => 0) k v pl nx 0 (by omega) ⟨cS, CST_f h2 (fun x hx => fC.1 x (by omega) (by omega) (by omega) (by omega)), c7, by omega, by rw [q6 16 (by omega), mw_ne (by omega), mw_at (by omega)], fun i hi => absurd hi (Nat.not_lt_zero _), fun j hj => by omega⟩ hx rT (Nat.le_refl _)
  rw [show 999998 - n + n + 2 = fu by unfold fu; omega, show 999999 - n + n + 1 = fu by unfold fu; omega, ← eR] at hp
  exact PLO_t fC fR hp
def PLF (S : a_S) (Q : Nat → Nat) (s i : Nat) : a_S := fun r j =>
  if r = 7363 ∧ j = 0 then 0 else if r = 7362 ∧ j = 0 then s else if r = 7364 ∧ i ≤ j ∧ j < 4 * s then Q j else S r j
theorem plf_o {S : a_S} {Q : Nat → Nat} {s i r j : Nat} (h : r ≠ 7363) (h1 : r ≠ 7362) (h2 : r ≠ 7364) : PLF S Q s i r j = S r j := by
  unfold PLF
  rw [if_neg (by omega), if_neg (by omega), if_neg (by omega)]
theorem plf_s {S : a_S} {Q : Nat → Nat} {s i : Nat} (hi : i < 4 * s) : PLF (sw S 7364 i (Q i)) Q s (i + 1) = PLF S Q s i := by
  funext r j
  unfold PLF
  by_cases h1 : r = 7363 ∧ j = 0
  · rw [if_pos h1, if_pos h1]
  · rw [if_neg h1, if_neg h1]
    by_cases h2 : r = 7362 ∧ j = 0
    · rw [if_pos h2, if_pos h2]
    · rw [if_neg h2, if_neg h2]
      by_cases h3 : r = 7364
      · by_cases h4 : j = i
        · rw [if_neg (by omega), if_pos (by omega), h3, h4, sw_at]
        · rw [sw_i h4]
          by_cases h5 : i + 1 ≤ j ∧ j < 4 * s
          · rw [if_pos ⟨h3, h5⟩, if_pos (by omega)]
          · rw [if_neg (by omega), if_neg (by omega)]
      · rw [if_neg (by omega), if_neg (by omega), sw_r h3]
theorem r_pl29 {k s : Nat} {Q : Nat → Nat} {N : j_M} (hs : s ≤ 24) (h16 : N 200 16 = nI s) (hN : ∀ j, j < 4 * s → N 206 j = nI (Q j)) : ∀ (m i : Nat) (S : a_S), i + m = 4 * s → xX12_planned_29 (k + m + 1) (nI i) (RS N S) = some (nI s, RS N (PLF S Q s i))
  | 0, i, S, h => by
    have hi : i = 4 * s := by omega
    subst hi
    have e1 : sw (sw S 7362 0 s) 7363 0 0 = PLF S Q s (4 * s) := by
      funext r j
      unfold PLF sw
      by_cases h1 : r = 7363 ∧ j = 0
      · rw [if_pos h1, if_pos h1]
      · rw [if_neg h1, if_neg h1]
        by_cases h2 : r = 7362 ∧ j = 0
        · rw [if_pos h2, if_pos h2]
        · rw [if_neg h2, if_neg h2, if_neg (by omega)]
    rw [show k + 0 + 1 = k + 1 from rfl, xX12_planned_29.eq_2, rs_o (by omega), h16, e_oli2, e_mul, if_pos (by rw [e_le (by omega) (by omega)]; omega), e_oli2, e_gd (by omega) (by omega), e_ix2 (by omega), sv_7362, e_oml2, e_gd (by omega) (by omega), e_ix2 (by omega), sv_7363, e_oml2, rs_o (by omega), h16, e_oli2, e1]
  | m + 1, i, S, h => by
    have ih := r_pl29 (k := k) hs h16 hN m (i + 1) (sw S 7364 i (Q i)) (by omega)
    rw [plf_s (by omega)] at ih
    rw [← ih, show k + (m + 1) + 1 = (k + m + 1) + 1 by omega, xX12_planned_29.eq_2, rs_o (by omega), h16, e_oli2, e_mul, if_neg (by rw [e_le (by omega) (by omega)]; omega), e_gd (by omega) (by omega), e_ix2 (by omega), rs_o (by omega), hN i (by omega), e_oli2, e_add, e_gd (by omega) (by omega), e_ix2 (by omega), st_7364 (by omega), e_oml2, e_add]
theorem POK_c {g h : Nat → Nat} (h0 : g 0 = h 0) (h1 : g 1 = h 1) (h2 : g 2 = h 2) (h3 : g 3 = h 3) (ha : POK h) : POK g := by
  unfold POK at ha ⊢
  rw [h0, h1, h2, h3]
  exact ha
theorem pcv_c {g h : Nat → Nat} (h0 : g 0 = h 0) (h1 : g 1 = h 1) (h2 : g 2 = h 2) (h3 : g 3 = h 3) : pcv g = pcv h := by
  unfold pcv
  rw [h0, h1, h2, h3]
theorem plf_q {S : a_S} {Q : Nat → Nat} {s p j : Nat} (hp : p < s) (hj : j < 4) : PLF S Q s 0 7364 (4 * p + j) = Q (4 * p + j) := by
  unfold PLF
  rw [if_neg (by omega), if_neg (by omega), if_pos (by omega)]
theorem plf_2 {S : a_S} {Q : Nat → Nat} {s : Nat} : PLF S Q s 0 7362 0 = s := by
  unfold PLF
  rw [if_neg (by omega), if_pos ⟨rfl, rfl⟩]
theorem plf_3 {S : a_S} {Q : Nat → Nat} {s : Nat} : PLF S Q s 0 7363 0 = 0 := by
  unfold PLF
  rw [if_pos ⟨rfl, rfl⟩]
theorem OKS_plf {S : a_S} {b s : Nat} {Q : Nat → Nat} (h : OKS S b) (hs : s ≤ 24) (hq : ∀ i, i < s → POK (fun j => Q (4 * i + j))) : OKS (PLF S Q s 0) b := by
  obtain ⟨h1, h2, h3, h4, h5, h6⟩ := h
  obtain ⟨p1, p2, p3, p4, p5⟩ := h2
  refine ⟨INV_log h1 (fun r i => ?_) (fun r i hr => plf_o (by omega) (by omega) (by omega)) (fun i _ _ _ => plf_o (by omega) (by omega) (by omega)), ⟨fun d hd => ?_, fun d k hd hk => ?_, ?_, ?_, fun p hp => ?_⟩, TRC_c h3 (fun i => plf_o (by omega) (by omega) (by omega)), ?_, ?_, h6⟩
  · by_cases q : r = 7363 ∨ r = 7362 ∨ r = 7364
    · unfold rg
      omega
    · rw [plf_o (by omega) (by omega) (by omega)]
      exact h1.1 r i
  · rw [plf_o (by omega) (by omega) (by omega), plf_o (by omega) (by omega) (by omega), plf_o (by omega) (by omega) (by omega)]
    exact p1 d hd
  · rw [plf_o (by omega) (by omega) (by omega)] at hk
    simp only [fun j => plf_o (S := S) (Q := Q) (s := s) (i := 0) (r := 3130) (j := j) (by omega) (by omega) (by omega)]
    exact p2 d k hd hk
  · rw [plf_2]; exact hs
  · rw [plf_2, plf_3]; omega
  · rw [plf_2] at hp
    exact POK_c (plf_q hp (by omega)) (plf_q hp (by omega)) (plf_q hp (by omega)) (plf_q hp (by omega)) (hq p hp)
  · rw [plf_o (by omega) (by omega) (by omega)]; exact h4
  · rw [plf_o (by omega) (by omega) (by omega), plf_o (by omega) (by omega) (by omega)]; exact h5
theorem SCP_plf {M N : j_M} {S : a_S} {s : Nat} {Q : Nat → Nat} (h : SCP M 1 S) (n5 : N 22 5 = nI s) (n6 : N 22 6 = nI 0) (n7 : N 22 7 = M 22 7) (n23 : N 23 = M 23) (n24 : N 24 = M 24) (n25 : N 25 = M 25) (n26 : N 26 = M 26) (n27 : ∀ p, p < s → N 27 p = nI (pcv (fun j => Q (4 * p + j)))) : SCP N 1 (PLF S Q s 0) := by
  obtain ⟨h1, h2, h3, h4, h5, h6⟩ := h
  refine ⟨fun d hd => ?_, fun d k hd hk => ?_, ?_, ?_, ?_, fun p hp => ?_⟩
  · rw [plf_o (by omega) (by omega) (by omega), plf_o (by omega) (by omega) (by omega), plf_o (by omega) (by omega) (by omega), show 1 + 23 = 24 from rfl, show 1 + 24 = 25 from rfl, show 1 + 25 = 26 from rfl, n24, n25, n26]
    exact h1 d hd
  · rw [plf_o (by omega) (by omega) (by omega)] at hk
    simp only [fun j => plf_o (S := S) (Q := Q) (s := s) (i := 0) (r := 3130) (j := j) (by omega) (by omega) (by omega)]
    rw [show 1 + 22 = 23 from rfl, n23]
    exact h2 d k hd hk
  · rw [plf_2]; exact n5
  · rw [plf_3]; exact n6
  · rw [plf_o (by omega) (by omega) (by omega), show 1 + 21 = 22 from rfl, n7]; exact h5
  · rw [plf_2] at hp
    rw [show 1 + 26 = 27 from rfl, n27 p hp, pcv_c (g := fun j => PLF S Q s 0 7364 (4 * p + j)) (h := fun j => Q (4 * p + j)) (plf_q hp (by omega)) (plf_q hp (by omega)) (plf_q hp (by omega)) (plf_q hp (by omega))]
theorem CVS_plf {M : j_M} {t s : Nat} {S : a_S} {Q : Nat → Nat} (h : CVS M t S) : CVS M t (PLF S Q s 0) := by
  intro k j hk h1 h2
  rw [h k j hk h1 h2]
  refine (cv_c hk (fun r i hc => plf_o ?_ ?_ ?_)).symm <;> unfold cu cu1 at hc <;> omega
theorem op_textL {M : j_M} {S : a_S} {b : Nat} (hR : RDR M) (hC : CST M) (hr : REL M S) (ho : OKS S b) : TXT (xX11_text (nI 6)) (xX12_text (nI 6)) M b := by
  obtain ⟨T, n, n1, n2, n3, n4, n5⟩ := RDR_T hR
  obtain ⟨r1, r2, r3⟩ := hr
  have c5 : mw (mw M 28 5 (nI 0)) 28 6 (-1) 28 5 = nI 0 := by rw [mw_ne (by omega), mw_at (by omega)]
  have c6 : mw (mw M 28 5 (nI 0)) 28 6 (-1) 28 6 = -1 := mw_at (by omega)
  have co : ∀ x, x ≠ 28 → mw (mw M 28 5 (nI 0)) 28 6 (-1) x = M x := fun x hx => by rw [mw_oth hx, mw_oth hx]
  have c4 : mw (mw M 28 5 (nI 0)) 28 6 (-1) 28 4 = nI n := by rw [mw_ne (by omega), mw_ne (by omega), n2]
  have eC : xX11_text (nI 6) M = obi (xX8_readPlan (mw (mw M 28 5 (nI 0)) 28 6 (-1))) fun v2 M1 => (if v2 = (-1 : Int32) then xX11_text_91 v2 M1 else obv (xX9_takePlan 22 200 30 v2 M1) fun M3 => xX11_text_91 v2 M3) := by
    unfold xX11_text xX8_clearFault xX11_text_54
    rw [e_oml2, e_oml2, e_obv2, if_neg (by decide), if_pos (by decide), if_pos rfl]
  have hTC : TC (mw (mw M 28 5 (nI 0)) 28 6 (-1)) T n := ⟨n1, c4, fun i hi => by rw [co 29 (by omega)]; exact n4 i hi⟩
  have hCC : CST (mw (mw M 28 5 (nI 0)) 28 6 (-1)) := CST_f hC (fun x hx => co x (by omega))
  generalize mw (mw M 28 5 (nI 0)) 28 6 (-1) = Mc at *
  have hTP : ∀ M1 : j_M, (∀ x, 200 ≤ x → M1 x = M x) → TLO Mc (mw (mw (mw M1 200 19 (nI 0)) 200 22 (-1)) 200 23 (nI 1)) (xX8_readPlan Mc) := by
    intro M1 hM
    refine t_plan hTC hCC c5 c6 ⟨n1, ?_, fun i hi => ?_⟩ (mw_at (by omega))
    · rw [mw_ne (by omega), mw_ne (by omega), mw_ne (by omega), hM 200 (by omega), n3]
    · rw [mw_oth (by omega), mw_oth (by omega), mw_oth (by omega), hM 205 (by omega)]; exact n5 i hi
  have eR : ∀ M1 : j_M, xX12_text (nI 6) M1 = obi (xX12_readsPlan (mw (mw (mw M1 200 19 (nI 0)) 200 22 (-1)) 200 23 (nI 1))) fun v11 M10 => obi (xX12_planned v11 M10) fun v13 M12 => some (v13, M12) := by
    intro M1
    unfold xX12_text xX12_text_22
    rw [e_oml2, e_oml2, if_pos rfl, e_gz1, e_oml2, mw_at (by omega), e_oli2, if_neg (by decide)]
  have e91 : ∀ (v : Int32) (M5 : j_M), M5 28 4 = nI n → xX11_text_91 v M5 = some (v, mw M5 28 4 (nI 0)) := by
    intro v M5 h5
    unfold xX11_text_91 xX8_cut
    rw [if_neg (by decide), h5, e_oli2, if_pos (by rw [e_le (by omega) (by omega)]; omega), e_oml2, e_obi2]
  rcases hTP M (fun _ _ => rfl) with ⟨Mc', _, s, Q, x1, l1, x2, x3, x4, x5, _⟩ | ⟨Mc', _, f, q, x1, x2, x3, _⟩
  · have m4 : Mc' 28 4 = nI n := by rw [x5.2 4 (by omega), c4]
    have eM1 : xX11_text (nI 6) M = some (nI s, mw (mw (mw (mcp Mc' 30 0 27 0 s) 22 5 (nI s)) 22 6 (nI 0)) 28 4 (nI 0)) := by
      rw [eC, x1, e_obi2, if_neg (nI_m1 (by omega))]
      unfold xX9_takePlan
      rw [e_gc (by omega) (by omega) (by omega) (by omega), e_ix2 (by omega), e_ix2 (by omega), e_oml2, e_oml2, e_oml2, e_obv2, e91 _ _ (by rw [mw_oth (by omega), mw_oth (by omega), mcp_o (by omega), m4])]
    have fo : ∀ x, x ≠ 28 → x ≠ 30 → x ≠ 31 → x ≠ 32 → x ≠ 22 → x ≠ 27 → mw (mw (mw (mcp Mc' 30 0 27 0 s) 22 5 (nI s)) 22 6 (nI 0)) 28 4 (nI 0) x = M x := by
      intro x a1 a2 a3 a4 a5 a6
      rw [mw_oth a1, mw_oth a5, mw_oth a5, mcp_o a6, x5.1 x a1 a2 a3 a4, co x a1]
    have f225 : mw (mw (mw (mcp Mc' 30 0 27 0 s) 22 5 (nI s)) 22 6 (nI 0)) 28 4 (nI 0) 22 5 = nI s := by rw [mw_oth (by omega), mw_ne (by omega), mw_at (by omega)]
    have f226 : mw (mw (mw (mcp Mc' 30 0 27 0 s) 22 5 (nI s)) 22 6 (nI 0)) 28 4 (nI 0) 22 6 = nI 0 := by rw [mw_oth (by omega), mw_at (by omega)]
    have f227 : mw (mw (mw (mcp Mc' 30 0 27 0 s) 22 5 (nI s)) 22 6 (nI 0)) 28 4 (nI 0) 22 7 = M 22 7 := by rw [mw_oth (by omega), mw_ne (by omega), mw_ne (by omega), mcp_o (by omega), x5.1 22 (by omega) (by omega) (by omega) (by omega), co 22 (by omega)]
    have f27 : ∀ p, p < s → mw (mw (mw (mcp Mc' 30 0 27 0 s) 22 5 (nI s)) 22 6 (nI 0)) 28 4 (nI 0) 27 p = Mc' 30 p := by
      intro p hp
      rw [mw_oth (by omega), mw_oth (by omega), mw_oth (by omega), mcp_r (by omega) hp]
    have f5 : mw (mw (mw (mcp Mc' 30 0 27 0 s) 22 5 (nI s)) 22 6 (nI 0)) 28 4 (nI 0) 28 5 = nI 0 := by
      rw [mw_ne (by omega), mw_oth (by omega), mw_oth (by omega), mcp_o (by omega), x2]
    have f6 : mw (mw (mw (mcp Mc' 30 0 27 0 s) 22 5 (nI s)) 22 6 (nI 0)) 28 4 (nI 0) 28 6 = -1 := by
      rw [mw_ne (by omega), mw_oth (by omega), mw_oth (by omega), mcp_o (by omega), x3]
    have f4 : mw (mw (mw (mcp Mc' 30 0 27 0 s) 22 5 (nI s)) 22 6 (nI 0)) 28 4 (nI 0) 28 4 = nI 0 := mw_at (by omega)
    generalize mw (mw (mw (mcp Mc' 30 0 27 0 s) 22 5 (nI s)) 22 6 (nI 0)) 28 4 (nI 0) = M1 at *
    rcases hTP M1 (fun x hx => fo x (by omega) (by omega) (by omega) (by omega) (by omega) (by omega)) with ⟨Mc2, Mr', s', Q', y3, y1, y4, y5, y6, y7, z1, z3, z4, z5⟩ | ⟨Mc2, _, f, q, y1, _⟩
    · rw [x1] at y3
      have y3' := Option.some.inj y3
      have y8 : Mc' = Mc2 := congrArg Prod.snd y3'
      have y9 : s = s' := by
        have e : (nI s = nI s') := congrArg Prod.fst y3'
        rw [e_eq (by omega) (by omega)] at e
        exact e
      subst y8
      subst y9
      have q1 : ∀ x, x ≠ 200 → x ≠ 206 → x ≠ 207 → Mr' x = M1 x := fun x a b c => by rw [z5.1 x a b c, mw_oth a, mw_oth a, mw_oth a]
      have q2 : mw Mr' 200 11 (nI 0) 201 = fl (enc S) := by rw [mw_oth (by omega), q1 201 (by omega) (by omega) (by omega), fo 201 (by omega) (by omega) (by omega) (by omega) (by omega) (by omega), r1]
      have eM2 : xX12_text (nI 6) M1 = some (nI s, RS (mw Mr' 200 11 (nI 0)) (PLF S Q' s 0)) := by
        rw [eR, z1, e_obi2]
        unfold xX12_planned
        have t := r_pl29 (k := 999999 - 4 * s) (N := mw Mr' 200 11 (nI 0)) y1 (by rw [mw_ne (by omega)]; exact z3) (fun j hj => by rw [mw_oth (by omega)]; exact z4 j hj) (4 * s) 0 S (by omega)
        rw [rs_self q2, show 999999 - 4 * s + 4 * s + 1 = fu by unfold fu; omega] at t
        rw [e_oml2, if_neg (by decide), t, e_obi2]
      have g1 : ∀ x, x < 200 → RS (mw Mr' 200 11 (nI 0)) (PLF S Q' s 0) x = M1 x := fun x hx => by rw [rs_o (by omega), mw_oth (by omega), q1 x (by omega) (by omega) (by omega)]
      refine ⟨nI s, M1, _, PLF S Q' s 0, eM1, eM2, ⟨rs_201, ?_, ?_⟩, OKS_plf ho y1 (fun i hi => (y6 i hi).1), ⟨0, by omega, ?_, ?_, fun i hi => absurd hi (Nat.not_lt_zero _)⟩, ⟨?_, ?_⟩, fun x hx => ?_, fun j hj => ?_⟩
      · exact CVS_plf (CVS_e r2 (fun x h1 h2 => by rw [g1 x (by omega), fo x (by omega) (by omega) (by omega) (by omega) (by omega) (by omega)]))
      · refine SCP_plf r3 ?_ ?_ ?_ ?_ ?_ ?_ ?_ (fun p hp => ?_)
        · rw [g1 22 (by omega), f225]
        · rw [g1 22 (by omega), f226]
        · rw [g1 22 (by omega), f227]
        · rw [g1 23 (by omega), fo 23 (by omega) (by omega) (by omega) (by omega) (by omega) (by omega)]
        · rw [g1 24 (by omega), fo 24 (by omega) (by omega) (by omega) (by omega) (by omega) (by omega)]
        · rw [g1 25 (by omega), fo 25 (by omega) (by omega) (by omega) (by omega) (by omega) (by omega)]
        · rw [g1 26 (by omega), fo 26 (by omega) (by omega) (by omega) (by omega) (by omega) (by omega)]
        · rw [g1 27 (by omega), f27 p hp]
          exact (y6 p hp).2
      · rw [g1 28 (by omega), f4]
      · rw [rs_o (by omega), mw_at (by omega)]
      · rw [g1 28 (by omega), f5, rs_o (by omega), mw_ne (by omega), z5.2 19 (by omega), mw_ne (by omega), mw_ne (by omega), mw_at (by omega)]
      · rw [g1 28 (by omega), f6, rs_o (by omega), mw_ne (by omega), z5.2 22 (by omega), mw_ne (by omega), mw_at (by omega)]
      · rw [rs_o (by omega), mw_oth (by omega), q1 x (by omega) (by omega) (by omega), fo x (by omega) (by omega) (by omega) (by omega) (by omega) (by omega)]
      · rw [rs_o (by omega), mw_ne (by omega), z5.2 j (by omega), mw_ne (by omega), mw_ne (by omega), mw_ne (by omega), fo 200 (by omega) (by omega) (by omega) (by omega) (by omega) (by omega)]
    · rw [x1] at y1
      have : nI s = -1 := congrArg Prod.fst (Option.some.inj y1)
      exact absurd this (nI_m1 (by omega))
  · have m4 : Mc' 28 4 = nI n := by rw [x3.2 4 (by omega), c4]
    have eM1 : xX11_text (nI 6) M = some (-1, mw Mc' 28 4 (nI 0)) := by
      rw [eC, x1, e_obi2, if_pos rfl, e91 _ _ m4]
    have fo : ∀ x, x ≠ 28 → x ≠ 30 → x ≠ 31 → x ≠ 32 → mw Mc' 28 4 (nI 0) x = M x := by
      intro x a1 a2 a3 a4
      rw [mw_oth a1, x3.1 x a1 a2 a3 a4, co x a1]
    rcases hTP (mw Mc' 28 4 (nI 0)) (fun x hx => fo x (by omega) (by omega) (by omega) (by omega)) with ⟨Mc2, _, s', Q', y3, y1, _⟩ | ⟨Mc2, Mr', f2, q2, y1, y2, y3, z1, z2, z5⟩
    · rw [x1] at y3
      have : -1 = nI s' := congrArg Prod.fst (Option.some.inj y3)
      exact absurd this.symm (nI_m1 (by omega))
    · rw [x1] at y1
      have y8 : Mc' = Mc2 := congrArg Prod.snd (Option.some.inj y1)
      subst y8
      have eM2 : xX12_text (nI 6) (mw Mc' 28 4 (nI 0)) = some (-1, mw (mw (mw Mr' 200 11 (nI 0)) 200 19 (nI f2)) 200 22 (nI q2)) := by
        rw [eR, z1, e_obi2]
        unfold xX12_planned
        rw [e_oml2, if_pos (by decide), mw_ne (by omega), z2.1, e_oli2, e_oml2, mw_ne (by omega), mw_ne (by omega), z2.2, e_oli2, e_oml2, e_obi2]
      have g1 : ∀ x, x ≠ 200 → x ≠ 206 → x ≠ 207 → mw (mw (mw Mr' 200 11 (nI 0)) 200 19 (nI f2)) 200 22 (nI q2) x = mw Mc' 28 4 (nI 0) x := fun x a b c => by rw [mw_oth a, mw_oth a, mw_oth a, z5.1 x a b c, mw_oth a, mw_oth a, mw_oth a]
      refine ⟨-1, _, _, S, eM1, eM2, ⟨?_, ?_, ?_⟩, ho, ⟨0, by omega, ?_, ?_, fun i hi => absurd hi (Nat.not_lt_zero _)⟩, ⟨?_, ?_⟩, fun x hx => ?_, fun j hj => ?_⟩
      · rw [g1 201 (by omega) (by omega) (by omega), fo 201 (by omega) (by omega) (by omega) (by omega), r1]
      · exact CVS_e r2 (fun x h1 h2 => by rw [g1 x (by omega) (by omega) (by omega), fo x (by omega) (by omega) (by omega) (by omega)])
      · exact SCP_e r3 (fun x h1 h2 => by rw [g1 x (by omega) (by omega) (by omega), fo x (by omega) (by omega) (by omega) (by omega)])
      · rw [g1 28 (by omega) (by omega) (by omega), mw_at (by omega)]
      · rw [mw_ne (by omega), mw_ne (by omega), mw_at (by omega)]
      · rw [g1 28 (by omega) (by omega) (by omega), mw_ne (by omega), y2.1, mw_ne (by omega), mw_at (by omega)]
      · rw [g1 28 (by omega) (by omega) (by omega), mw_ne (by omega), y2.2, mw_at (by omega)]
      · rw [g1 x (by omega) (by omega) (by omega), fo x (by omega) (by omega) (by omega) (by omega)]
      · rw [mw_ne (by omega), mw_ne (by omega), mw_ne (by omega), z5.2 j (by omega), mw_ne (by omega), mw_ne (by omega), mw_ne (by omega), fo 200 (by omega) (by omega) (by omega) (by omega)]
/-- any other number -/
theorem op_textN {M : j_M} {S : a_S} {b : Nat} {a : Int32} (hR : RDR M) (hr : REL M S) (ho : OKS S b) (h6 : a ≠ nI 6) (h0 : ¬ ∃ c, c < 6 ∧ a = nI c) : TXT (xX11_text a) (xX12_text a) M b := by
  obtain ⟨n, n1, n2, n3, n4⟩ := hR
  obtain ⟨r1, r2, r3⟩ := hr
  have eM1 : xX11_text a M = some (-1, mw (mw (mw M 28 5 (nI 0)) 28 6 (-1)) 28 4 (nI 0)) := by
    have e54 : xX11_text_54 a (-1) (mw (mw M 28 5 (nI 0)) 28 6 (-1)) = some (-1, mw (mw (mw M 28 5 (nI 0)) 28 6 (-1)) 28 4 (nI 0)) := by
      unfold xX11_text_54 xX11_text_91 xX8_cut
      rw [if_neg h6, if_neg (by decide), mw_ne (by omega), mw_ne (by omega), n2, e_oli2, if_pos (by rw [e_le (by omega) (by omega)]; omega), e_oml2, e_obi2]
    unfold xX11_text xX8_clearFault
    rw [e_oml2, e_oml2, e_obv2, e54]
    rcases i_cases a with ⟨k, hk, rfl⟩ | ha
    · have hk6 : ¬ k < 6 := fun q => h0 ⟨k, q, rfl⟩
      rw [if_neg (by rw [e_lt0 hk]; omega), if_pos (by rw [e_le (by omega) hk]; omega)]
    · rw [if_pos ha]
  have eM2 : ∀ M1 : j_M, xX12_text a M1 = some (-1, mw (mw (mw (mw M1 200 19 (nI 0)) 200 22 (-1)) 200 23 (nI 0)) 200 11 (nI 0)) := by
    intro M1
    unfold xX12_text xX12_text_22
    rw [e_oml2, e_oml2, if_neg h6, e_gz0, e_oml2, mw_at (by omega), e_oli2, if_pos (by decide)]
    rcases i_cases a with ⟨k, hk, rfl⟩ | ha
    · have hk6 : ¬ k < 6 := fun q => h0 ⟨k, q, rfl⟩
      rw [m_isIn _ hk (by omega) (by omega), e_obi2, if_neg (show ¬ (0 ≤ k ∧ k ≤ 5) by omega), if_pos (by decide), e_oml2]
    · rw [q_isInN ha (by omega), e_obi2, if_pos (by decide), e_oml2]
  refine ⟨-1, _, _, S, eM1, eM2 _, ⟨?_, ?_, ?_⟩, ho, ⟨0, by omega, ?_, mw_at (by omega), fun i hi => absurd hi (Nat.not_lt_zero _)⟩, ⟨?_, ?_⟩, fun x hx => ?_, fun j hj => ?_⟩
  · simp (disch := omega) only [mw_oth]; exact r1
  · exact CVS_e r2 (fun x h1 h2 => by simp (disch := omega) only [mw_oth])
  · exact SCP_e r3 (fun x h1 h2 => by simp (disch := omega) only [mw_oth])
  · simp (disch := omega) only [mw_oth, mw_at]
  · simp (disch := omega) only [mw_oth, mw_at, mw_ne]
  · simp (disch := omega) only [mw_oth, mw_at, mw_ne]
  · simp (disch := omega) only [mw_oth]
  · simp (disch := omega) only [mw_oth, mw_at, mw_ne]
theorem op_text {M : j_M} {S : a_S} {b : Nat} (a : Int32) (hR : RDR M) (hC : CST M) (hr : REL M S) (ho : OKS S b) : TXT (xX11_text a) (xX12_text a) M b := by
  by_cases h6 : a = nI 6
  · subst h6
    exact op_textL hR hC hr ho
  · by_cases h0 : ∃ c, c < 6 ∧ a = nI c
    · obtain ⟨c, hc, rfl⟩ := h0
      exact op_textP hR hC hr ho hc
    · exact op_textN hR hr ho h6 h0
