/-! ===== the calls once more, with the script kept between the two ===== -/
def TXB (F G : j_M → Option (Int32 × j_M)) (M : j_M) (b : Nat) : Prop := ∃ v M1 M2 S', F M = some (v, M1) ∧ G M1 = some (v, M2) ∧ M1 310 = M 310 ∧ REL M2 S' ∧ OKS S' b ∧ RDR M2 ∧ FLT M2 ∧ XFR M M2
theorem op_textPB {M : j_M} {S : a_S} {b c : Nat} (hR : RDR M) (hC : CST M) (hr : REL M S) (ho : OKS S b) (hc : c < 6) : TXB (xX11_text (nI c)) (xX12_text (nI c)) M b := by
  obtain ⟨T, n, n1, n2, n3, n4, n5⟩ := RDR_T hR
  obtain ⟨r1, r2, r3⟩ := hr
  have c5 : mw (mw M 28 5 (nI 0)) 28 6 (-1) 28 5 = nI 0 := by rw [mw_ne (by omega), mw_at (by omega)]
  have c6 : mw (mw M 28 5 (nI 0)) 28 6 (-1) 28 6 = -1 := mw_at (by omega)
  have co : ∀ x, x ≠ 28 → mw (mw M 28 5 (nI 0)) 28 6 (-1) x = M x := fun x hx => by rw [mw_oth hx, mw_oth hx]
  have c4 : mw (mw M 28 5 (nI 0)) 28 6 (-1) 28 4 = nI n := by rw [mw_ne (by omega), mw_ne (by omega), n2]
  have eC : xX11_text (nI c) M = obi (xX8_readProgram (mw (mw M 28 5 (nI 0)) 28 6 (-1))) fun v3 M2 => (if v3 = (-1 : Int32) then xX11_text_91 v3 M2 else obv (xX9_takeProgram 22 200 30 (nI c) v3 M2) fun M4 => xX11_text_91 v3 M4) := by
    unfold xX11_text xX8_clearFault
    rw [e_oml2, e_oml2, e_obv2, if_neg (by rw [e_lt0 (by omega)]; omega), if_neg (by rw [e_le (by omega) (by omega)]; omega)]
  have hTC : TC (mw (mw M 28 5 (nI 0)) 28 6 (-1)) T n := ⟨n1, c4, fun i hi => by rw [co 29 (by omega)]; exact n4 i hi⟩
  have hCC : CST (mw (mw M 28 5 (nI 0)) 28 6 (-1)) := CST_f hC (fun x hx => co x (by omega))
  generalize mw (mw M 28 5 (nI 0)) 28 6 (-1) = Mc at *
  have hTP : ∀ M1 : j_M, (∀ x, 200 ≤ x → M1 x = M x) → TPO Mc (mw (mw (mw M1 200 19 (nI 0)) 200 22 (-1)) 200 23 (nI 0)) (xX8_readProgram Mc) := by
    intro M1 hM
    refine t_prog hTC hCC c5 c6 ⟨n1, ?_, fun i hi => ?_⟩ (mw_at (by omega))
    · rw [mw_ne (by omega), mw_ne (by omega), mw_ne (by omega), hM 200 (by omega), n3]
    · rw [mw_oth (by omega), mw_oth (by omega), mw_oth (by omega), hM 205 (by omega)]; exact n5 i hi
  have eR : ∀ M1 : j_M, xX12_text (nI c) M1 = obi (xX12_readsAll (mw (mw (mw M1 200 19 (nI 0)) 200 22 (-1)) 200 23 (nI 0))) fun v6 M5 => (if v6 = (0 : Int32) then xX12_text_75 (nI c) M5 else obi (xX12_makes M5) fun v8 M7 => (if v8 = (0 : Int32) then xX12_text_75 (nI c) M7 else xX12_text_76 (nI c) (nI 1) M7)) := by
    intro M1
    unfold xX12_text xX12_text_22
    rw [e_oml2, e_oml2, if_neg (by rw [e_eq (by omega) (by omega)]; omega), e_gz0, e_oml2, mw_at (by omega), e_oli2, if_pos (by decide), m_isIn _ (by omega) (by omega) (by omega), e_obi2, if_pos (show 0 ≤ c ∧ c ≤ 5 by omega), if_neg (by decide)]
  have e91 : ∀ (v : Int32) (M5 : j_M), M5 28 4 = nI n → xX11_text_91 v M5 = some (v, mw M5 28 4 (nI 0)) := by
    intro v M5 h5
    unfold xX11_text_91 xX8_cut
    rw [if_neg (by decide), h5, e_oli2, if_pos (by rw [e_le (by omega) (by omega)]; omega), e_oml2, e_obi2]
  rcases hTP M (fun _ _ => rfl) with ⟨L, Mc', _, _, l1, l2, x1, x2, x3, x4, x5, _⟩ | ⟨Mc', _, f, q, x1, x2, x3, _⟩
  · have m4 : Mc' 28 4 = nI n := by rw [x5.2 4 (by omega), c4]
    have eM1 : xX11_text (nI c) M = some (nI L.length, mw (mw (mw (mcp Mc' 30 0 23 (200 * c) L.length) 24 c (nI L.length)) 25 c (nI 0)) 28 4 (nI 0)) := by
      rw [eC, x1, e_obi2, if_neg (nI_m1 (by omega))]
      unfold xX9_takeProgram
      rw [e_mul, e_gc (by omega) (by omega) (by omega) (by omega), e_ix2 (by omega), e_ix2 (by omega), e_ix2 (by omega), e_oml2, e_gd (by omega) (by omega), e_ix2 (by omega), e_oml2, e_gd (by omega) (by omega), e_oml2, e_obv2, Nat.mul_comm c 200, e91 _ _ (by rw [mw_oth (by omega), mw_oth (by omega), mcp_o (by omega), m4])]
    have fo : ∀ x, x ≠ 28 → x ≠ 30 → x ≠ 31 → x ≠ 32 → x ≠ 23 → x ≠ 24 → x ≠ 25 → mw (mw (mw (mcp Mc' 30 0 23 (200 * c) L.length) 24 c (nI L.length)) 25 c (nI 0)) 28 4 (nI 0) x = M x := by
      intro x a1 a2 a3 a4 a5 a6 a7
      rw [mw_oth a1, mw_oth a7, mw_oth a6, mcp_o a5, x5.1 x a1 a2 a3 a4, co x a1]
    have f24 : ∀ d, mw (mw (mw (mcp Mc' 30 0 23 (200 * c) L.length) 24 c (nI L.length)) 25 c (nI 0)) 28 4 (nI 0) 24 d = if d = c then nI L.length else M 24 d := by
      intro d
      rw [mw_oth (by omega), mw_oth (by omega)]
      by_cases y : d = c
      · rw [if_pos y, y, mw_at (by omega)]
      · rw [if_neg y, mw_ne y, mcp_o (by omega), x5.1 24 (by omega) (by omega) (by omega) (by omega), co 24 (by omega)]
    have f25 : ∀ d, mw (mw (mw (mcp Mc' 30 0 23 (200 * c) L.length) 24 c (nI L.length)) 25 c (nI 0)) 28 4 (nI 0) 25 d = if d = c then nI 0 else M 25 d := by
      intro d
      rw [mw_oth (by omega)]
      by_cases y : d = c
      · rw [if_pos y, y, mw_at (by omega)]
      · rw [if_neg y, mw_ne y, mw_oth (by omega), mcp_o (by omega), x5.1 25 (by omega) (by omega) (by omega) (by omega), co 25 (by omega)]
    have f23 : ∀ j, mw (mw (mw (mcp Mc' 30 0 23 (200 * c) L.length) 24 c (nI L.length)) 25 c (nI 0)) 28 4 (nI 0) 23 j = if 200 * c ≤ j ∧ j < 200 * c + L.length then Mc' 30 (j - 200 * c) else M 23 j := by
      intro j
      rw [mw_oth (by omega), mw_oth (by omega), mw_oth (by omega)]
      unfold mcp
      rw [if_pos ⟨rfl, by omega⟩, Nat.zero_add, x5.1 23 (by omega) (by omega) (by omega) (by omega), co 23 (by omega)]
    have f5 : mw (mw (mw (mcp Mc' 30 0 23 (200 * c) L.length) 24 c (nI L.length)) 25 c (nI 0)) 28 4 (nI 0) 28 5 = nI 0 := by
      rw [mw_ne (by omega), mw_oth (by omega), mw_oth (by omega), mcp_o (by omega), x2]
    have f6 : mw (mw (mw (mcp Mc' 30 0 23 (200 * c) L.length) 24 c (nI L.length)) 25 c (nI 0)) 28 4 (nI 0) 28 6 = -1 := by
      rw [mw_ne (by omega), mw_oth (by omega), mw_oth (by omega), mcp_o (by omega), x3]
    have f4 : mw (mw (mw (mcp Mc' 30 0 23 (200 * c) L.length) 24 c (nI L.length)) 25 c (nI 0)) 28 4 (nI 0) 28 4 = nI 0 := mw_at (by omega)
    generalize mw (mw (mw (mcp Mc' 30 0 23 (200 * c) L.length) 24 c (nI L.length)) 25 c (nI 0)) 28 4 (nI 0) = M1 at *
    rcases hTP M1 (fun x hx => fo x (by omega) (by omega) (by omega) (by omega) (by omega) (by omega) (by omega)) with ⟨L', Mc2, M3, Mr', y1, y2, y3, y4, y5, y6, y7, z1, z2, z3, z4, z5, z6⟩ | ⟨Mc2, _, f, q, y1, _⟩
    · rw [x1] at y3
      have y3' := Option.some.inj y3
      have y8 : Mc' = Mc2 := congrArg Prod.snd y3'
      have y9 : L.length = L'.length := by
        have := congrArg Prod.fst y3'
        have e : (nI L.length = nI L'.length) := this
        rw [e_eq (by omega) (by omega)] at e
        exact e
      subst y8
      have q1 : ∀ x, (x < 200 ∨ x = 201 ∨ x = 202 ∨ x = 203 ∨ x = 205 ∨ 211 ≤ x) → Mr' x = M1 x := fun x hx => by rw [z5 x hx, mw_oth (by omega), mw_oth (by omega), mw_oth (by omega)]
      have q2 : mw Mr' 200 11 (nI 0) 201 = fl (enc S) := by rw [mw_oth (by omega), q1 201 (by omega), fo 201 (by omega) (by omega) (by omega) (by omega) (by omega) (by omega) (by omega), r1]
      have eM2 : xX12_text (nI c) M1 = some (nI L.length, RS (mw Mr' 200 11 (nI 0)) (PRF S c L' 0)) := by
        rw [eR, z1, e_obi2, if_neg (by decide), z2, e_obi2, if_neg (by decide)]
        unfold xX12_text_76
        rw [e_oml2, if_neg (by decide), show fu = 999399 + 600 + 1 by unfold fu; omega]
        have t := r_t106 (k := 999399) (N := mw Mr' 200 11 (nI 0)) hc y1 (by rw [mw_ne (by omega)]; exact z3) (fun i j a b => by rw [mw_oth (by omega)]; exact z4 i j a b) 600 0 S (by omega)
        rw [rs_self q2] at t
        rw [t, y9]
      have g1 : ∀ x, x < 200 → RS (mw Mr' 200 11 (nI 0)) (PRF S c L' 0) x = M1 x := fun x hx => by rw [rs_o (by omega), mw_oth (by omega), q1 x (by omega)]
      refine ⟨nI L.length, M1, _, PRF S c L' 0, eM1, eM2, (by first | exact fo 310 (by omega) (by omega) (by omega) (by omega) | exact fo 310 (by omega) (by omega) (by omega) (by omega) (by omega) (by omega) | exact fo 310 (by omega) (by omega) (by omega) (by omega) (by omega) (by omega) (by omega) | (simp (disch := omega) only [mw_oth])), ⟨rs_201, ?_, ?_⟩, OKS_prf ho y1 y2 hc, ⟨0, by omega, ?_, ?_, fun i hi => absurd hi (Nat.not_lt_zero _)⟩, ⟨?_, ?_⟩, fun x hx => ?_, fun j hj => ?_⟩
      · exact CVS_prf (CVS_e r2 (fun x h1 h2 => by rw [g1 x (by omega), fo x (by omega) (by omega) (by omega) (by omega) (by omega) (by omega) (by omega)]))
      · refine SCP_prf r3 ho.2.1 y1 y2 hc (fun d => ?_) (fun d => ?_) ?_ ?_ ?_ (fun j => ?_)
        · rw [g1 24 (by omega), f24, y9]
        · rw [g1 25 (by omega), f25]
        · rw [g1 26 (by omega), fo 26 (by omega) (by omega) (by omega) (by omega) (by omega) (by omega) (by omega)]
        · rw [g1 22 (by omega), fo 22 (by omega) (by omega) (by omega) (by omega) (by omega) (by omega) (by omega)]
        · rw [g1 27 (by omega), fo 27 (by omega) (by omega) (by omega) (by omega) (by omega) (by omega) (by omega)]
        · rw [g1 23 (by omega), f23, y9]
          by_cases w : 200 * c ≤ j ∧ j < 200 * c + L'.length
          · rw [if_pos w, if_pos w, y6 _ (by omega)]
          · rw [if_neg w, if_neg w]
      · rw [g1 28 (by omega), f4]
      · rw [rs_o (by omega), mw_at (by omega)]
      · rw [g1 28 (by omega), f5, rs_o (by omega), mw_ne (by omega), z6 19 (by omega), mw_ne (by omega), mw_ne (by omega), mw_at (by omega)]
      · rw [g1 28 (by omega), f6, rs_o (by omega), mw_ne (by omega), z6 22 (by omega), mw_ne (by omega), mw_at (by omega)]
      · rw [rs_o (by omega), mw_oth (by omega), q1 x (by omega), fo x (by omega) (by omega) (by omega) (by omega) (by omega) (by omega) (by omega)]
      · rw [rs_o (by omega), mw_ne (by omega), z6 j (by omega), mw_ne (by omega), mw_ne (by omega), mw_ne (by omega), fo 200 (by omega) (by omega) (by omega) (by omega) (by omega) (by omega) (by omega)]
    · rw [x1] at y1
      have : nI L.length = -1 := congrArg Prod.fst (Option.some.inj y1)
      exact absurd this (nI_m1 (by omega))
  · have m4 : Mc' 28 4 = nI n := by rw [x3.2 4 (by omega), c4]
    have eM1 : xX11_text (nI c) M = some (-1, mw Mc' 28 4 (nI 0)) := by
      rw [eC, x1, e_obi2, if_pos rfl, e91 _ _ m4]
    have fo : ∀ x, x ≠ 28 → x ≠ 30 → x ≠ 31 → x ≠ 32 → mw Mc' 28 4 (nI 0) x = M x := by
      intro x a1 a2 a3 a4
      rw [mw_oth a1, x3.1 x a1 a2 a3 a4, co x a1]
    rcases hTP (mw Mc' 28 4 (nI 0)) (fun x hx => fo x (by omega) (by omega) (by omega) (by omega)) with ⟨L', Mc2, _, _, y1, _, y3, _⟩ | ⟨Mc2, Mr', f2, q2, y1, y2, y3, z1, z2, z5, z6⟩
    · rw [x1] at y3
      have : -1 = nI L'.length := congrArg Prod.fst (Option.some.inj y3)
      exact absurd this.symm (nI_m1 (by omega))
    · rw [x1] at y1
      have y8 : Mc' = Mc2 := congrArg Prod.snd (Option.some.inj y1)
      subst y8
      have e76 : xX12_text_75 (nI c) Mr' = some (-1, mw (mw (mw Mr' 200 11 (nI 0)) 200 19 (nI f2)) 200 22 (nI q2)) := by
        unfold xX12_text_75 xX12_text_76
        rw [e_oml2, if_pos (by decide), mw_ne (by omega), z2.1, e_oli2, e_oml2, mw_ne (by omega), mw_ne (by omega), z2.2, e_oli2, e_oml2]
      have eM2 : xX12_text (nI c) (mw Mc' 28 4 (nI 0)) = some (-1, mw (mw (mw Mr' 200 11 (nI 0)) 200 19 (nI f2)) 200 22 (nI q2)) := by
        rw [eR]
        rcases z1 with z1 | ⟨M3, z1, z3⟩
        · rw [z1, e_obi2, if_pos (by decide), e76]
        · rw [z1, e_obi2, if_neg (by decide), z3, e_obi2, if_pos (by decide), e76]
      have g1 : ∀ x, (x < 200 ∨ x = 201 ∨ x = 202 ∨ x = 203 ∨ x = 205 ∨ 211 ≤ x) → mw (mw (mw Mr' 200 11 (nI 0)) 200 19 (nI f2)) 200 22 (nI q2) x = mw Mc' 28 4 (nI 0) x := fun x hx => by rw [mw_oth (by omega), mw_oth (by omega), mw_oth (by omega), z5 x hx, mw_oth (a := 200) (by omega), mw_oth (a := 200) (by omega), mw_oth (a := 200) (by omega)]
      refine ⟨-1, _, _, S, eM1, eM2, (by first | exact fo 310 (by omega) (by omega) (by omega) (by omega) | exact fo 310 (by omega) (by omega) (by omega) (by omega) (by omega) (by omega) | exact fo 310 (by omega) (by omega) (by omega) (by omega) (by omega) (by omega) (by omega) | (simp (disch := omega) only [mw_oth])), ⟨?_, ?_, ?_⟩, ho, ⟨0, by omega, ?_, ?_, fun i hi => absurd hi (Nat.not_lt_zero _)⟩, ⟨?_, ?_⟩, fun x hx => ?_, fun j hj => ?_⟩
      · rw [g1 201 (by omega), fo 201 (by omega) (by omega) (by omega) (by omega), r1]
      · exact CVS_e r2 (fun x h1 h2 => by rw [g1 x (by omega), fo x (by omega) (by omega) (by omega) (by omega)])
      · exact SCP_e r3 (fun x h1 h2 => by rw [g1 x (by omega), fo x (by omega) (by omega) (by omega) (by omega)])
      · rw [g1 28 (by omega), mw_at (by omega)]
      · rw [mw_ne (by omega), mw_ne (by omega), mw_at (by omega)]
      · rw [g1 28 (by omega), mw_ne (by omega), y2.1, mw_ne (by omega), mw_at (by omega)]
      · rw [g1 28 (by omega), mw_ne (by omega), y2.2, mw_at (by omega)]
      · rw [g1 x (by omega), fo x (by omega) (by omega) (by omega) (by omega)]
      · rw [mw_ne (by omega), mw_ne (by omega), mw_ne (by omega), z6 j (by omega), mw_ne (by omega), mw_ne (by omega), mw_ne (by omega), fo 200 (by omega) (by omega) (by omega) (by omega)]

theorem op_textLB {M : j_M} {S : a_S} {b : Nat} (hR : RDR M) (hC : CST M) (hr : REL M S) (ho : OKS S b) : TXB (xX11_text (nI 6)) (xX12_text (nI 6)) M b := by
  obtain ⟨T, n, n1, n2, n3, n4, n5⟩ := RDR_T hR
  obtain ⟨r1, r2, r3⟩ := hr
  have c5 : mw (mw M 28 5 (nI 0)) 28 6 (-1) 28 5 = nI 0 := by rw [mw_ne (by omega), mw_at (by omega)]
  have c6 : mw (mw M 28 5 (nI 0)) 28 6 (-1) 28 6 = -1 := mw_at (by omega)
  have co : ∀ x, x ≠ 28 → mw (mw M 28 5 (nI 0)) 28 6 (-1) x = M x := fun x hx => by rw [mw_oth hx, mw_oth hx]
  have c4 : mw (mw M 28 5 (nI 0)) 28 6 (-1) 28 4 = nI n := by rw [mw_ne (by omega), mw_ne (by omega), n2]
  have eC : xX11_text (nI 6) M = obi (xX8_readPlan (mw (mw M 28 5 (nI 0)) 28 6 (-1))) fun v2 M1 => (if v2 = (-1 : Int32) then xX11_text_91 v2 M1 else obv (xX9_takePlan 22 200 30 v2 M1) fun M3 => xX11_text_91 v2 M3) := by
    unfold xX11_text xX8_clearFault xX11_text_54
    rw [e_oml2, e_oml2, e_obv2, if_neg (by decide), if_pos (by decide), if_pos rfl]
  have hTC : TC (mw (mw M 28 5 (nI 0)) 28 6 (-1)) T n := ⟨n1, c4, fun i hi => by rw [co 29 (by omega)]; exact n4 i hi⟩
  have hCC : CST (mw (mw M 28 5 (nI 0)) 28 6 (-1)) := CST_f hC (fun x hx => co x (by omega))
  generalize mw (mw M 28 5 (nI 0)) 28 6 (-1) = Mc at *
  have hTP : ∀ M1 : j_M, (∀ x, 200 ≤ x → M1 x = M x) → TLO Mc (mw (mw (mw M1 200 19 (nI 0)) 200 22 (-1)) 200 23 (nI 1)) (xX8_readPlan Mc) := by
    intro M1 hM
    refine t_plan hTC hCC c5 c6 ⟨n1, ?_, fun i hi => ?_⟩ (mw_at (by omega))
    · rw [mw_ne (by omega), mw_ne (by omega), mw_ne (by omega), hM 200 (by omega), n3]
    · rw [mw_oth (by omega), mw_oth (by omega), mw_oth (by omega), hM 205 (by omega)]; exact n5 i hi
  have eR : ∀ M1 : j_M, xX12_text (nI 6) M1 = obi (xX12_readsPlan (mw (mw (mw M1 200 19 (nI 0)) 200 22 (-1)) 200 23 (nI 1))) fun v11 M10 => obi (xX12_planned v11 M10) fun v13 M12 => some (v13, M12) := by
    intro M1
    unfold xX12_text xX12_text_22
    rw [e_oml2, e_oml2, if_pos rfl, e_gz1, e_oml2, mw_at (by omega), e_oli2, if_neg (by decide)]
  have e91 : ∀ (v : Int32) (M5 : j_M), M5 28 4 = nI n → xX11_text_91 v M5 = some (v, mw M5 28 4 (nI 0)) := by
    intro v M5 h5
    unfold xX11_text_91 xX8_cut
    rw [if_neg (by decide), h5, e_oli2, if_pos (by rw [e_le (by omega) (by omega)]; omega), e_oml2, e_obi2]
  rcases hTP M (fun _ _ => rfl) with ⟨Mc', _, s, Q, x1, l1, x2, x3, x4, x5, _⟩ | ⟨Mc', _, f, q, x1, x2, x3, _⟩
  · have m4 : Mc' 28 4 = nI n := by rw [x5.2 4 (by omega), c4]
    have eM1 : xX11_text (nI 6) M = some (nI s, mw (mw (mw (mcp Mc' 30 0 27 0 s) 22 5 (nI s)) 22 6 (nI 0)) 28 4 (nI 0)) := by
      rw [eC, x1, e_obi2, if_neg (nI_m1 (by omega))]
      unfold xX9_takePlan
      rw [e_gc (by omega) (by omega) (by omega) (by omega), e_ix2 (by omega), e_ix2 (by omega), e_oml2, e_oml2, e_oml2, e_obv2, e91 _ _ (by rw [mw_oth (by omega), mw_oth (by omega), mcp_o (by omega), m4])]
    have fo : ∀ x, x ≠ 28 → x ≠ 30 → x ≠ 31 → x ≠ 32 → x ≠ 22 → x ≠ 27 → mw (mw (mw (mcp Mc' 30 0 27 0 s) 22 5 (nI s)) 22 6 (nI 0)) 28 4 (nI 0) x = M x := by
      intro x a1 a2 a3 a4 a5 a6
      rw [mw_oth a1, mw_oth a5, mw_oth a5, mcp_o a6, x5.1 x a1 a2 a3 a4, co x a1]
    have f225 : mw (mw (mw (mcp Mc' 30 0 27 0 s) 22 5 (nI s)) 22 6 (nI 0)) 28 4 (nI 0) 22 5 = nI s := by rw [mw_oth (by omega), mw_ne (by omega), mw_at (by omega)]
    have f226 : mw (mw (mw (mcp Mc' 30 0 27 0 s) 22 5 (nI s)) 22 6 (nI 0)) 28 4 (nI 0) 22 6 = nI 0 := by rw [mw_oth (by omega), mw_at (by omega)]
    have f227 : mw (mw (mw (mcp Mc' 30 0 27 0 s) 22 5 (nI s)) 22 6 (nI 0)) 28 4 (nI 0) 22 7 = M 22 7 := by rw [mw_oth (by omega), mw_ne (by omega), mw_ne (by omega), mcp_o (by omega), x5.1 22 (by omega) (by omega) (by omega) (by omega), co 22 (by omega)]
    have f27 : ∀ p, p < s → mw (mw (mw (mcp Mc' 30 0 27 0 s) 22 5 (nI s)) 22 6 (nI 0)) 28 4 (nI 0) 27 p = Mc' 30 p := by
      intro p hp
      rw [mw_oth (by omega), mw_oth (by omega), mw_oth (by omega), mcp_r (by omega) hp]
    have f5 : mw (mw (mw (mcp Mc' 30 0 27 0 s) 22 5 (nI s)) 22 6 (nI 0)) 28 4 (nI 0) 28 5 = nI 0 := by
      rw [mw_ne (by omega), mw_oth (by omega), mw_oth (by omega), mcp_o (by omega), x2]
    have f6 : mw (mw (mw (mcp Mc' 30 0 27 0 s) 22 5 (nI s)) 22 6 (nI 0)) 28 4 (nI 0) 28 6 = -1 := by
      rw [mw_ne (by omega), mw_oth (by omega), mw_oth (by omega), mcp_o (by omega), x3]
    have f4 : mw (mw (mw (mcp Mc' 30 0 27 0 s) 22 5 (nI s)) 22 6 (nI 0)) 28 4 (nI 0) 28 4 = nI 0 := mw_at (by omega)
    generalize mw (mw (mw (mcp Mc' 30 0 27 0 s) 22 5 (nI s)) 22 6 (nI 0)) 28 4 (nI 0) = M1 at *
    rcases hTP M1 (fun x hx => fo x (by omega) (by omega) (by omega) (by omega) (by omega) (by omega)) with ⟨Mc2, Mr', s', Q', y3, y1, y4, y5, y6, y7, z1, z3, z4, z5⟩ | ⟨Mc2, _, f, q, y1, _⟩
    · rw [x1] at y3
      have y3' := Option.some.inj y3
      have y8 : Mc' = Mc2 := congrArg Prod.snd y3'
      have y9 : s = s' := by
        have e : (nI s = nI s') := congrArg Prod.fst y3'
        rw [e_eq (by omega) (by omega)] at e
        exact e
      subst y8
      subst y9
      have q1 : ∀ x, x ≠ 200 → x ≠ 206 → x ≠ 207 → Mr' x = M1 x := fun x a b c => by rw [z5.1 x a b c, mw_oth a, mw_oth a, mw_oth a]
      have q2 : mw Mr' 200 11 (nI 0) 201 = fl (enc S) := by rw [mw_oth (by omega), q1 201 (by omega) (by omega) (by omega), fo 201 (by omega) (by omega) (by omega) (by omega) (by omega) (by omega), r1]
      have eM2 : xX12_text (nI 6) M1 = some (nI s, RS (mw Mr' 200 11 (nI 0)) (PLF S Q' s 0)) := by
        rw [eR, z1, e_obi2]
        unfold xX12_planned
        have t := r_pl29 (k := 999999 - 4 * s) (N := mw Mr' 200 11 (nI 0)) y1 (by rw [mw_ne (by omega)]; exact z3) (fun j hj => by rw [mw_oth (by omega)]; exact z4 j hj) (4 * s) 0 S (by omega)
        rw [rs_self q2, show 999999 - 4 * s + 4 * s + 1 = fu by unfold fu; omega] at t
        rw [e_oml2, if_neg (by decide), t, e_obi2]
      have g1 : ∀ x, x < 200 → RS (mw Mr' 200 11 (nI 0)) (PLF S Q' s 0) x = M1 x := fun x hx => by rw [rs_o (by omega), mw_oth (by omega), q1 x (by omega) (by omega) (by omega)]
      refine ⟨nI s, M1, _, PLF S Q' s 0, eM1, eM2, (by first | exact fo 310 (by omega) (by omega) (by omega) (by omega) | exact fo 310 (by omega) (by omega) (by omega) (by omega) (by omega) (by omega) | exact fo 310 (by omega) (by omega) (by omega) (by omega) (by omega) (by omega) (by omega) | (simp (disch := omega) only [mw_oth])), ⟨rs_201, ?_, ?_⟩, OKS_plf ho y1 (fun i hi => (y6 i hi).1), ⟨0, by omega, ?_, ?_, fun i hi => absurd hi (Nat.not_lt_zero _)⟩, ⟨?_, ?_⟩, fun x hx => ?_, fun j hj => ?_⟩
      · exact CVS_plf (CVS_e r2 (fun x h1 h2 => by rw [g1 x (by omega), fo x (by omega) (by omega) (by omega) (by omega) (by omega) (by omega)]))
      · refine SCP_plf r3 ?_ ?_ ?_ ?_ ?_ ?_ ?_ (fun p hp => ?_)
        · rw [g1 22 (by omega), f225]
        · rw [g1 22 (by omega), f226]
        · rw [g1 22 (by omega), f227]
        · rw [g1 23 (by omega), fo 23 (by omega) (by omega) (by omega) (by omega) (by omega) (by omega)]
        · rw [g1 24 (by omega), fo 24 (by omega) (by omega) (by omega) (by omega) (by omega) (by omega)]
        · rw [g1 25 (by omega), fo 25 (by omega) (by omega) (by omega) (by omega) (by omega) (by omega)]
        · rw [g1 26 (by omega), fo 26 (by omega) (by omega) (by omega) (by omega) (by omega) (by omega)]
        · rw [g1 27 (by omega), f27 p hp]
          exact (y6 p hp).2
      · rw [g1 28 (by omega), f4]
      · rw [rs_o (by omega), mw_at (by omega)]
      · rw [g1 28 (by omega), f5, rs_o (by omega), mw_ne (by omega), z5.2 19 (by omega), mw_ne (by omega), mw_ne (by omega), mw_at (by omega)]
      · rw [g1 28 (by omega), f6, rs_o (by omega), mw_ne (by omega), z5.2 22 (by omega), mw_ne (by omega), mw_at (by omega)]
      · rw [rs_o (by omega), mw_oth (by omega), q1 x (by omega) (by omega) (by omega), fo x (by omega) (by omega) (by omega) (by omega) (by omega) (by omega)]
      · rw [rs_o (by omega), mw_ne (by omega), z5.2 j (by omega), mw_ne (by omega), mw_ne (by omega), mw_ne (by omega), fo 200 (by omega) (by omega) (by omega) (by omega) (by omega) (by omega)]
    · rw [x1] at y1
      have : nI s = -1 := congrArg Prod.fst (Option.some.inj y1)
      exact absurd this (nI_m1 (by omega))
  · have m4 : Mc' 28 4 = nI n := by rw [x3.2 4 (by omega), c4]
    have eM1 : xX11_text (nI 6) M = some (-1, mw Mc' 28 4 (nI 0)) := by
      rw [eC, x1, e_obi2, if_pos rfl, e91 _ _ m4]
    have fo : ∀ x, x ≠ 28 → x ≠ 30 → x ≠ 31 → x ≠ 32 → mw Mc' 28 4 (nI 0) x = M x := by
      intro x a1 a2 a3 a4
      rw [mw_oth a1, x3.1 x a1 a2 a3 a4, co x a1]
    rcases hTP (mw Mc' 28 4 (nI 0)) (fun x hx => fo x (by omega) (by omega) (by omega) (by omega)) with ⟨Mc2, _, s', Q', y3, y1, _⟩ | ⟨Mc2, Mr', f2, q2, y1, y2, y3, z1, z2, z5⟩
    · rw [x1] at y3
      have : -1 = nI s' := congrArg Prod.fst (Option.some.inj y3)
      exact absurd this.symm (nI_m1 (by omega))
    · rw [x1] at y1
      have y8 : Mc' = Mc2 := congrArg Prod.snd (Option.some.inj y1)
      subst y8
      have eM2 : xX12_text (nI 6) (mw Mc' 28 4 (nI 0)) = some (-1, mw (mw (mw Mr' 200 11 (nI 0)) 200 19 (nI f2)) 200 22 (nI q2)) := by
        rw [eR, z1, e_obi2]
        unfold xX12_planned
        rw [e_oml2, if_pos (by decide), mw_ne (by omega), z2.1, e_oli2, e_oml2, mw_ne (by omega), mw_ne (by omega), z2.2, e_oli2, e_oml2, e_obi2]
      have g1 : ∀ x, x ≠ 200 → x ≠ 206 → x ≠ 207 → mw (mw (mw Mr' 200 11 (nI 0)) 200 19 (nI f2)) 200 22 (nI q2) x = mw Mc' 28 4 (nI 0) x := fun x a b c => by rw [mw_oth a, mw_oth a, mw_oth a, z5.1 x a b c, mw_oth a, mw_oth a, mw_oth a]
      refine ⟨-1, _, _, S, eM1, eM2, (by first | exact fo 310 (by omega) (by omega) (by omega) (by omega) | exact fo 310 (by omega) (by omega) (by omega) (by omega) (by omega) (by omega) | exact fo 310 (by omega) (by omega) (by omega) (by omega) (by omega) (by omega) (by omega) | (simp (disch := omega) only [mw_oth])), ⟨?_, ?_, ?_⟩, ho, ⟨0, by omega, ?_, ?_, fun i hi => absurd hi (Nat.not_lt_zero _)⟩, ⟨?_, ?_⟩, fun x hx => ?_, fun j hj => ?_⟩
      · rw [g1 201 (by omega) (by omega) (by omega), fo 201 (by omega) (by omega) (by omega) (by omega), r1]
      · exact CVS_e r2 (fun x h1 h2 => by rw [g1 x (by omega) (by omega) (by omega), fo x (by omega) (by omega) (by omega) (by omega)])
      · exact SCP_e r3 (fun x h1 h2 => by rw [g1 x (by omega) (by omega) (by omega), fo x (by omega) (by omega) (by omega) (by omega)])
      · rw [g1 28 (by omega) (by omega) (by omega), mw_at (by omega)]
      · rw [mw_ne (by omega), mw_ne (by omega), mw_at (by omega)]
      · rw [g1 28 (by omega) (by omega) (by omega), mw_ne (by omega), y2.1, mw_ne (by omega), mw_at (by omega)]
      · rw [g1 28 (by omega) (by omega) (by omega), mw_ne (by omega), y2.2, mw_at (by omega)]
      · rw [g1 x (by omega) (by omega) (by omega), fo x (by omega) (by omega) (by omega) (by omega)]
      · rw [mw_ne (by omega), mw_ne (by omega), mw_ne (by omega), z5.2 j (by omega), mw_ne (by omega), mw_ne (by omega), mw_ne (by omega), fo 200 (by omega) (by omega) (by omega) (by omega)]
theorem op_textNB {M : j_M} {S : a_S} {b : Nat} {a : Int32} (hR : RDR M) (hr : REL M S) (ho : OKS S b) (h6 : a ≠ nI 6) (h0 : ¬ ∃ c, c < 6 ∧ a = nI c) : TXB (xX11_text a) (xX12_text a) M b := by
  obtain ⟨n, n1, n2, n3, n4⟩ := hR
  obtain ⟨r1, r2, r3⟩ := hr
  have eM1 : xX11_text a M = some (-1, mw (mw (mw M 28 5 (nI 0)) 28 6 (-1)) 28 4 (nI 0)) := by
    have e54 : xX11_text_54 a (-1) (mw (mw M 28 5 (nI 0)) 28 6 (-1)) = some (-1, mw (mw (mw M 28 5 (nI 0)) 28 6 (-1)) 28 4 (nI 0)) := by
      unfold xX11_text_54 xX11_text_91 xX8_cut
      rw [if_neg h6, if_neg (by decide), mw_ne (by omega), mw_ne (by omega), n2, e_oli2, if_pos (by rw [e_le (by omega) (by omega)]; omega), e_oml2, e_obi2]
    unfold xX11_text xX8_clearFault
    rw [e_oml2, e_oml2, e_obv2, e54]
    rcases i_cases a with ⟨k, hk, rfl⟩ | ha
    · have hk6 : ¬ k < 6 := fun q => h0 ⟨k, q, rfl⟩
      rw [if_neg (by rw [e_lt0 hk]; omega), if_pos (by rw [e_le (by omega) hk]; omega)]
    · rw [if_pos ha]
  have eM2 : ∀ M1 : j_M, xX12_text a M1 = some (-1, mw (mw (mw (mw M1 200 19 (nI 0)) 200 22 (-1)) 200 23 (nI 0)) 200 11 (nI 0)) := by
    intro M1
    unfold xX12_text xX12_text_22
    rw [e_oml2, e_oml2, if_neg h6, e_gz0, e_oml2, mw_at (by omega), e_oli2, if_pos (by decide)]
    rcases i_cases a with ⟨k, hk, rfl⟩ | ha
    · have hk6 : ¬ k < 6 := fun q => h0 ⟨k, q, rfl⟩
      rw [m_isIn _ hk (by omega) (by omega), e_obi2, if_neg (show ¬ (0 ≤ k ∧ k ≤ 5) by omega), if_pos (by decide), e_oml2]
    · rw [q_isInN ha (by omega), e_obi2, if_pos (by decide), e_oml2]
  refine ⟨-1, _, _, S, eM1, eM2 _, (by first | exact fo 310 (by omega) (by omega) (by omega) (by omega) | exact fo 310 (by omega) (by omega) (by omega) (by omega) (by omega) (by omega) | exact fo 310 (by omega) (by omega) (by omega) (by omega) (by omega) (by omega) (by omega) | (simp (disch := omega) only [mw_oth])), ⟨?_, ?_, ?_⟩, ho, ⟨0, by omega, ?_, mw_at (by omega), fun i hi => absurd hi (Nat.not_lt_zero _)⟩, ⟨?_, ?_⟩, fun x hx => ?_, fun j hj => ?_⟩
  · simp (disch := omega) only [mw_oth]; exact r1
  · exact CVS_e r2 (fun x h1 h2 => by simp (disch := omega) only [mw_oth])
  · exact SCP_e r3 (fun x h1 h2 => by simp (disch := omega) only [mw_oth])
  · simp (disch := omega) only [mw_oth, mw_at]
  · simp (disch := omega) only [mw_oth, mw_at, mw_ne]
  · simp (disch := omega) only [mw_oth, mw_at, mw_ne]
  · simp (disch := omega) only [mw_oth]
  · simp (disch := omega) only [mw_oth, mw_at, mw_ne]
theorem op_textB {M : j_M} {S : a_S} {b : Nat} (a : Int32) (hR : RDR M) (hC : CST M) (hr : REL M S) (ho : OKS S b) : TXB (xX11_text a) (xX12_text a) M b := by
  by_cases h6 : a = nI 6
  · subst h6
    exact op_textLB hR hC hr ho
  · by_cases h0 : ∃ c, c < 6 ∧ a = nI c
    · obtain ⟨c, hc, rfl⟩ := h0
      exact op_textPB hR hC hr ho hc
    · exact op_textNB hR hr ho h6 h0

set_option maxRecDepth 20000 in
theorem op_soonB {M : j_M} {S : a_S} {b d : Nat} (a : Int32) (hr : REL M S) (ho : OKS S b) (ht : THK M d) (hd : d ≤ 1000000000) : ∃ v M1 M2 S', xX11_soon a M = some (v, M1) ∧ xX12_soon a M1 = some (v, M2) ∧ M1 310 = M 310 ∧ REL M2 S' ∧ OKS S' b ∧ THK M2 (d + 250000) ∧ SFR M M2 := by
  obtain ⟨r1, r2, r3⟩ := hr
  have hi := ho.1
  have hn := g_n hi.1
  have hn2 : 2 ≤ S 1 0 := hi.2.2.2.2.2.2.1.1
  have e1 : XS M 2 S = M := xs_self r2
  have e2 : RS M S = M := rs_self r1
  have h5 := ho.2.2.2.1
  have h9 := OKS_9 ho
  have hno : (¬ ∃ c, a = nI c ∧ c < S 1 0 ∧ S 292 c ≠ 0) → ∃ v, xX11_soon a M = some (v, M) ∧ xX12_soon a M = some (v, M) := by
    intro hx
    unfold xX11_soon xX12_soon
    rcases i_cases a with ⟨c, hc, rfl⟩ | ha
    · have x1 := x_isCpu (N := M) (t := 2) (c := c) hi.1 hc
      have x2 := r_isCpu (N := M) (c := c) hi.1 (by omega) hc
      rw [e1] at x1
      rw [e2] at x2
      rw [x1, e_obi2, x2, e_obi2]
      by_cases q : c < S 1 0
      · have h0 : S 292 c = 0 := by
          by_cases w : S 292 c = 0
          · exact w
          · exact absurd ⟨c, rfl, q, w⟩ hx
        have x3 := x_missOf (N := M) (t := 2) (S := S) (c := c) (by omega)
        have mb := msv_lt (c := c) hi.1
        have m0 := (msv_0 (c := c) hi.2.2.2.2.2.2.2.1 (by omega)).2 h0
        have x4 : M 201 (292 + c) = oI (S 292 c) := by
          have := sr_292 (N := M) (S := S) (k := c) (by omega)
          rw [e2] at this
          exact this
        rw [e1] at x3
        refine ⟨nI 0, ?_, ?_⟩
        · rw [if_pos q, if_neg (by decide), x3, e_obi2, m0, if_pos (by decide)]
        · rw [if_pos q, if_neg (by decide), e_add, e_gd (by omega) (by omega), e_ix2 (by omega), x4, h0, e_oli2, if_pos (by decide)]
      · exact ⟨-1, by rw [if_neg q, if_pos (by decide)], by rw [if_neg q, if_pos (by decide)]⟩
    · have x2 := q_isCpuN (N := M) hi.1 (by omega) ha
      rw [e2] at x2
      rw [x_isCpuN ha, e_obi2, x2, e_obi2]
      exact ⟨-1, by rw [if_pos (by decide)], by rw [if_pos (by decide)]⟩
  by_cases hx : ∃ c, a = nI c ∧ c < S 1 0 ∧ S 292 c ≠ 0
  · obtain ⟨c, rfl, hc, h0⟩ := hx
    have x1 := x_isCpu (N := M) (t := 2) (c := c) hi.1 (by omega)
    have x3 := x_missOf (N := M) (t := 2) (S := S) (c := c) (by omega)
    rw [e1] at x1 x3
    have mb := msv_lt (c := c) hi.1
    have m0 : ¬ msv S c = 0 := fun q => h0 ((msv_0 (c := c) hi.2.2.2.2.2.2.2.1 (by omega)).1 q)
    obtain ⟨M', D, p1, ⟨d1, d2, d3, d4⟩, p3, p4, p5, p6⟩ := x_prep r2 ht
    have im := mrg_i (S := S) (D := D) hi d1 d2
    have s9 : MRG S D 6961 0 = D 6961 0 := mrg_l (by unfold lgp; omega)
    -- the class alone, to have its memory
    obtain ⟨v, S2', _, _, y1, _, y3, y4, y5⟩ := soon_both (N := M') (c := c) (k := 999939) (k' := 0) (by omega) p4 60 1 (MRG S D) S M (by omega) mrg_ag im hi (by omega) (by omega) (by omega) (mrg_t d3)
    rw [xs_self p3] at y1
    have eC : xX11_soon (nI c) M = some (v, XS M' 70 S2') := by
      unfold xX11_soon
      rw [x1, e_obi2, if_pos hc, if_neg (by decide), x3, e_obi2, if_neg (by rw [e_eq0 mb]; exact m0), p1, e_obv2, show fu = 999939 + 60 + 1 by unfold fu; omega, y1]
    have fo : ∀ x, x ≠ 0 → x < 70 ∨ 90 ≤ x → XS M' 70 S2' x = M x := fun x hx hx2 => by rw [xs_o (by omega), p5 x hx hx2]
    -- then the reference
    have q1 : XS M' 70 S2' 201 = fl (enc S) := by rw [fo 201 (by omega) (by omega), r1]
    have k1 : CP7 (XS M' 70 S2') 203 201 0 201 = fl (enc S) := by rw [cp7_o (by omega), q1]
    obtain ⟨v', S3', x, Sr', z1, z2, _, _, _⟩ := soon_both (N := M') (c := c) (k := 999939) (k' := 999939) (by omega) p4 60 1 (MRG S D) S (CP7 (XS M' 70 S2') 203 201 0) (by omega) mrg_ag im hi (by omega) (by omega) (by omega) (mrg_t d3)
    rw [xs_self p3, y1] at z1
    have hv : v = v' := congrArg Prod.fst (Option.some.inj z1)
    subst hv
    rw [rs_self k1] at z2
    have x2 := r_isCpu (N := XS M' 70 S2') (c := c) hi.1 (by omega) (by omega)
    rw [rs_self q1] at x2
    have x4 : XS M' 70 S2' 201 (292 + c) = oI (S 292 c) := by
      have := sr_292 (N := XS M' 70 S2') (S := S) (k := c) (by omega)
      rw [rs_self q1] at this
      exact this
    have rg9 : S 292 c ≤ 8 := by
      have := (hi.1 292 c)
      unfold rg at this
      omega
    have eR : xX12_soon (nI c) (XS M' 70 S2') = some (v, CP7 (RS (w4 (CP7 (XS M' 70 S2') 203 201 0) x) Sr') 201 203 0) := by
      unfold xX12_soon
      rw [x2, e_obi2, if_pos hc, if_neg (by decide), e_add, e_gd (by omega) (by omega), e_ix2 (by omega), x4, e_oli2, f_om1 (by omega), if_neg h0, r_keeps, e_obv2, show fu = 999939 + 60 + 1 by unfold fu; omega, z2]
      unfold xX12_soon_76
      rw [r_putsBack, e_obv2]
    have g1 : ∀ x', x' ≠ 201 → x' ≠ 203 → x' ≠ 204 → CP7 (RS (w4 (CP7 (XS M' 70 S2') 203 201 0) x) Sr') 201 203 0 x' = XS M' 70 S2' x' := by
      intro x' a1 a2 a3
      rw [cp7_o a1, rs_o a1]
      unfold w4
      rw [if_neg a3, cp7_o a2]
    refine ⟨v, _, _, PT S Sr', eC, eR, fo 310 (by omega) (by omega), ⟨?_, ?_, ?_⟩, OKS_pt ho, Or.inr ⟨?_, S2', ⟨y3.1, y3.2.2.2.2.2.2.2.2.2.2, y4, by omega⟩, fun k j h8 hk c1 c2 => ?_⟩, fun x' a0 a1 a2 a3 a4 => ?_, fun j hj => ?_⟩
    · funext j
      rw [fl_pt]
      by_cases hj : j < 7460
      · rw [cp7_r hj, if_pos hj, rs_o (by omega)]
        unfold w4
        rw [if_neg (by omega), cp7_r hj, q1]
      · rw [cp7_n (by omega), if_neg hj, rs_201]
    · exact CVS_pt (CVS_e r2 (fun x' h1 h2 => by rw [g1 x' (by omega) (by omega) (by omega), fo x' (by omega) (by omega)]))
    · exact SCP_pt (SCP_e r3 (fun x' h1 h2 => by rw [g1 x' (by omega) (by omega) (by omega), fo x' (by omega) (by omega)]))
    · rw [g1 0 (by omega) (by omega) (by omega), xs_o (by omega)]; exact p4
    · rw [g1 (70 + k) (by omega) (by omega) (by omega)]
      exact xs_r hk c1 c2
    · rw [g1 x' a1 a2 a3, fo x' a0 a4]
    · rw [g1 0 (by omega) (by omega) (by omega), xs_o (by omega), p6 j hj]
  · obtain ⟨v, a1, a2⟩ := hno hx
    exact ⟨v, M, M, S, a1, a2, rfl, ⟨r1, r2, r3⟩, ho, THK_le ht (by omega), SFR_r⟩

