/-! ===== text: both, for a program ===== -/
/-- what a text leaves alone -/
def XFR (M M' : j_M) : Prop := (∀ x, (x < 22 ∨ x = 29 ∨ (33 ≤ x ∧ x < 200) ∨ x = 202 ∨ x = 203 ∨ x = 205 ∨ 211 ≤ x) → M' x = M x) ∧ (∀ j, j < 11 → M' 200 j = M 200 j)
def TXT (F G : j_M → Option (Int32 × j_M)) (M : j_M) (b : Nat) : Prop := ∃ v M1 M2 S', F M = some (v, M1) ∧ G M1 = some (v, M2) ∧ REL M2 S' ∧ OKS S' b ∧ RDR M2 ∧ FLT M2 ∧ XFR M M2
theorem RDR_T {M : j_M} (h : RDR M) : ∃ (T : Nat → Nat) (n : Nat), n ≤ 400 ∧ M 28 4 = nI n ∧ M 200 11 = nI n ∧ (∀ i, i < n → T i < 256 ∧ M 29 i = nI (T i)) ∧ (∀ i, i < n → T i < 256 ∧ (T i < 128 → M 205 i = nI (T i)) ∧ (128 ≤ T i → M 205 i < 0)) := by
  obtain ⟨n, h1, h2, h3, h4⟩ := h
  have key : ∀ i, i < n → (M 29 i).toInt.toNat < 256 ∧ M 29 i = nI ((M 29 i).toInt.toNat) ∧ ((M 29 i).toInt.toNat < 128 → M 205 i = nI ((M 29 i).toInt.toNat)) ∧ (128 ≤ (M 29 i).toInt.toNat → M 205 i < 0) := by
    intro i hi
    obtain ⟨c, c1, c2, c3, c4⟩ := h4 i hi
    have e : (M 29 i).toInt.toNat = c := by rw [c2, nI_toInt (by omega)]; rfl
    rw [e]
    exact ⟨c1, c2, c3, c4⟩
  exact ⟨fun i => (M 29 i).toInt.toNat, n, h1, h2, h3, fun i hi => ⟨(key i hi).1, (key i hi).2.1⟩, fun i hi => ⟨(key i hi).1, (key i hi).2.2⟩⟩
theorem nI_m1 {k : Nat} (hk : k < 1000000) : nI k ≠ -1 := by
  intro q
  have q2 := congrArg Int32.toInt q
  rw [nI_toInt (by omega), show (-1 : Int32).toInt = -1 by decide] at q2
  omega
theorem op_textP {M : j_M} {S : a_S} {b c : Nat} (hR : RDR M) (hC : CST M) (hr : REL M S) (ho : OKS S b) (hc : c < 6) : TXT (xX11_text (nI c)) (xX12_text (nI c)) M b := by
  obtain ⟨T, n, n1, n2, n3, n4, n5⟩ := RDR_T hR
  obtain ⟨r1, r2, r3⟩ := hr
  have c5 : mw (mw M 28 5 (nI 0)) 28 6 (-1) 28 5 = nI 0 := by rw [mw_ne (by omega), mw_at (by omega)]
  have c6 : mw (mw M 28 5 (nI 0)) 28 6 (-1) 28 6 = -1 := mw_at (by omega)
  have co : ∀ x, x ≠ 28 → mw (mw M 28 5 (nI 0)) 28 6 (-1) x = M x := fun x hx => by rw [mw_oth hx, mw_oth hx]
  have c4 : mw (mw M 28 5 (nI 0)) 28 6 (-1) 28 4 = nI n := by rw [mw_ne (by omega), mw_ne (by omega), n2]
  have eC : xX11_text (nI c) M = obi (xX8_readProgram (mw (mw M 28 5 (nI 0)) 28 6 (-1))) fun v3 M2 => (if v3 = (-1 : Int32) then xX11_text_91 v3 M2 else obv (xX9_takeProgram 22 200 30 (nI c) v3 M2) fun M4 => xX11_text_91 v3 M4) := by
    unfold xX11_text xX8_clearFault
    rw [e_oml2, e_oml2, e_obv2, if_neg (by rw [e_lt0 (by omega)]; omega), if_neg (by rw [e_le (by omega) (by omega)]; omega)]
  have hTC : TC (mw (mw M 28 5 (nI 0)) 28 6 (-1)) T n := ⟨n1, c4, fun i hi => by rw [co 29 (by omega)]; exact n4 i hi⟩
  have hCC : CST (mw (mw M 28 5 (nI 0)) 28 6 (-1)) := CST_f hC (fun x hx => co x (by omega))
  generalize mw (mw M 28 5 (nI 0)) 28 6 (-1) = Mc at *
  have hTP : ∀ M1 : j_M, (∀ x, 200 ≤ x → M1 x = M x) → TPO Mc (mw (mw (mw M1 200 19 (nI 0)) 200 22 (-1)) 200 23 (nI 0)) (xX8_readProgram Mc) := by
    intro M1 hM
    refine t_prog hTC hCC c5 c6 ⟨n1, ?_, fun i hi => ?_⟩ (mw_at (by omega))
    · rw [mw_ne (by omega), mw_ne (by omega), mw_ne (by omega), hM 200 (by omega), n3]
    · rw [mw_oth (by omega), mw_oth (by omega), mw_oth (by omega), hM 205 (by omega)]; exact n5 i hi
  have eR : ∀ M1 : j_M, xX12_text (nI c) M1 = obi (xX12_readsAll (mw (mw (mw M1 200 19 (nI 0)) 200 22 (-1)) 200 23 (nI 0))) fun v6 M5 => (if v6 = (0 : Int32) then xX12_text_75 (nI c) M5 else obi (xX12_makes M5) fun v8 M7 => (if v8 = (0 : Int32) then xX12_text_75 (nI c) M7 else xX12_text_76 (nI c) (nI 1) M7)) := by
    intro M1
    unfold xX12_text xX12_text_22
    rw [e_oml2, e_oml2, if_neg (by rw [e_eq (by omega) (by omega)]; omega), e_gz0, e_oml2, mw_at (by omega), e_oli2, if_pos (by decide), m_isIn _ (by omega) (by omega) (by omega), e_obi2, if_pos (show 0 ≤ c ∧ c ≤ 5 by omega), if_neg (by decide)]
  have e91 : ∀ (v : Int32) (M5 : j_M), M5 28 4 = nI n → xX11_text_91 v M5 = some (v, mw M5 28 4 (nI 0)) := by
    intro v M5 h5
    unfold xX11_text_91 xX8_cut
    rw [if_neg (by decide), h5, e_oli2, if_pos (by rw [e_le (by omega) (by omega)]; omega), e_oml2, e_obi2]
  rcases hTP M (fun _ _ => rfl) with ⟨L, Mc', _, _, l1, l2, x1, x2, x3, x4, x5, _⟩ | ⟨Mc', _, f, q, x1, x2, x3, _⟩
  · have m4 : Mc' 28 4 = nI n := by rw [x5.2 4 (by omega), c4]
    have eM1 : xX11_text (nI c) M = some (nI L.length, mw (mw (mw (mcp Mc' 30 0 23 (200 * c) L.length) 24 c (nI L.length)) 25 c (nI 0)) 28 4 (nI 0)) := by
      rw [eC, x1, e_obi2, if_neg (nI_m1 (by omega))]
      unfold xX9_takeProgram
      rw [e_mul, e_gc (by omega) (by omega) (by omega) (by omega), e_ix2 (by omega), e_ix2 (by omega), e_ix2 (by omega), e_oml2, e_gd (by omega) (by omega), e_ix2 (by omega), e_oml2, e_gd (by omega) (by omega), e_oml2, e_obv2, Nat.mul_comm c 200, e91 _ _ (by rw [mw_oth (by omega), mw_oth (by omega), mcp_o (by omega), m4])]
    have fo : ∀ x, x ≠ 28 → x ≠ 30 → x ≠ 31 → x ≠ 32 → x ≠ 23 → x ≠ 24 → x ≠ 25 → mw (mw (mw (mcp Mc' 30 0 23 (200 * c) L.length) 24 c (nI L.length)) 25 c (nI 0)) 28 4 (nI 0) x = M x := by
      intro x a1 a2 a3 a4 a5 a6 a7
      rw [mw_oth a1, mw_oth a7, mw_oth a6, mcp_o a5, x5.1 x a1 a2 a3 a4, co x a1]
    have f24 : ∀ d, mw (mw (mw (mcp Mc' 30 0 23 (200 * c) L.length) 24 c (nI L.length)) 25 c (nI 0)) 28 4 (nI 0) 24 d = if d = c then nI L.length else M 24 d := by
      intro d
      rw [mw_oth (by omega), mw_oth (by omega)]
      by_cases y : d = c
      · rw [if_pos y, y, mw_at (by omega)]
      · rw [if_neg y, mw_ne y, mcp_o (by omega), x5.1 24 (by omega) (by omega) (by omega) (by omega), co 24 (by omega)]
    have f25 : ∀ d, mw (mw (mw (mcp Mc' 30 0 23 (200 * c) L.length) 24 c (nI L.length)) 25 c (nI 0)) 28 4 (nI 0) 25 d = if d = c then nI 0 else M 25 d := by
      intro d
      rw [mw_oth (by omega)]
      by_cases y : d = c
      · rw [if_pos y, y, mw_at (by omega)]
      · rw [if_neg y, mw_ne y, mw_oth (by omega), mcp_o (by omega), x5.1 25 (by omega) (by omega) (by omega) (by omega), co 25 (by omega)]
    have f23 : ∀ j, mw (mw (mw (mcp Mc' 30 0 23 (200 * c) L.length) 24 c (nI L.length)) 25 c (nI 0)) 28 4 (nI 0) 23 j = if 200 * c ≤ j ∧ j < 200 * c + L.length then Mc' 30 (j - 200 * c) else M 23 j := by
      intro j
      rw [mw_oth (by omega), mw_oth (by omega), mw_oth (by omega)]
      unfold mcp
      rw [if_pos ⟨rfl, by omega⟩, Nat.zero_add, x5.1 23 (by omega) (by omega) (by omega) (by omega), co 23 (by omega)]
    have f5 : mw (mw (mw (mcp Mc' 30 0 23 (200 * c) L.length) 24 c (nI L.length)) 25 c (nI 0)) 28 4 (nI 0) 28 5 = nI 0 := by
      rw [mw_ne (by omega), mw_oth (by omega), mw_oth (by omega), mcp_o (by omega), x2]
    have f6 : mw (mw (mw (mcp Mc' 30 0 23 (200 * c) L.length) 24 c (nI L.length)) 25 c (nI 0)) 28 4 (nI 0) 28 6 = -1 := by
      rw [mw_ne (by omega), mw_oth (by omega), mw_oth (by omega), mcp_o (by omega), x3]
    have f4 : mw (mw (mw (mcp Mc' 30 0 23 (200 * c) L.length) 24 c (nI L.length)) 25 c (nI 0)) 28 4 (nI 0) 28 4 = nI 0 := mw_at (by omega)
    generalize mw (mw (mw (mcp Mc' 30 0 23 (200 * c) L.length) 24 c (nI L.length)) 25 c (nI 0)) 28 4 (nI 0) = M1 at *
    rcases hTP M1 (fun x hx => fo x (by omega) (by omega) (by omega) (by omega) (by omega) (by omega) (by omega)) with ⟨L', Mc2, M3, Mr', y1, y2, y3, y4, y5, y6, y7, z1, z2, z3, z4, z5, z6⟩ | ⟨Mc2, _, f, q, y1, _⟩
    · rw [x1] at y3
      have y3' := Option.some.inj y3
      have y8 : Mc' = Mc2 := congrArg Prod.snd y3'
      have y9 : L.length = L'.length := by
        have := congrArg Prod.fst y3'
        have e : (nI L.length = nI L'.length) := this
        rw [e_eq (by omega) (by omega)] at e
        exact e
      subst y8
      have q1 : ∀ x, (x < 200 ∨ x = 201 ∨ x = 202 ∨ x = 203 ∨ x = 205 ∨ 211 ≤ x) → Mr' x = M1 x := fun x hx => by rw [z5 x hx, mw_oth (by omega), mw_oth (by omega), mw_oth (by omega)]
      have q2 : mw Mr' 200 11 (nI 0) 201 = fl (enc S) := by rw [mw_oth (by omega), q1 201 (by omega), fo 201 (by omega) (by omega) (by omega) (by omega) (by omega) (by omega) (by omega), r1]
      have eM2 : xX12_text (nI c) M1 = some (nI L.length, RS (mw Mr' 200 11 (nI 0)) (PRF S c L' 0)) := by
        rw [eR, z1, e_obi2, if_neg (by decide), z2, e_obi2, if_neg (by decide)]
        unfold xX12_text_76
        rw [e_oml2, if_neg (by decide), show fu = 999399 + 600 + 1 by unfold fu; omega]
        have t := r_t106 (k := 999399) (N := mw Mr' 200 11 (nI 0)) hc y1 (by rw [mw_ne (by omega)]; exact z3) (fun i j a b => by rw [mw_oth (by omega)]; exact z4 i j a b) 600 0 S (by omega)
        rw [rs_self q2] at t
        rw [t, y9]
      have g1 : ∀ x, x < 200 → RS (mw Mr' 200 11 (nI 0)) (PRF S c L' 0) x = M1 x := fun x hx => by rw [rs_o (by omega), mw_oth (by omega), q1 x (by omega)]
      refine ⟨nI L.length, M1, _, PRF S c L' 0, eM1, eM2, ⟨rs_201, ?_, ?_⟩, OKS_prf ho y1 y2 hc, ⟨0, by omega, ?_, ?_, fun i hi => absurd hi (Nat.not_lt_zero _)⟩, ⟨?_, ?_⟩, fun x hx => ?_, fun j hj => ?_⟩
      · exact CVS_prf (CVS_e r2 (fun x h1 h2 => by rw [g1 x (by omega), fo x (by omega) (by omega) (by omega) (by omega) (by omega) (by omega) (by omega)]))
      · refine SCP_prf r3 ho.2.1 y1 y2 hc (fun d => ?_) (fun d => ?_) ?_ ?_ ?_ (fun j => ?_)
        · rw [g1 24 (by omega), f24, y9]
        · rw [g1 25 (by omega), f25]
        · rw [g1 26 (by omega), fo 26 (by omega) (by omega) (by omega) (by omega) (by omega) (by omega) (by omega)]
        · rw [g1 22 (by omega), fo 22 (by omega) (by omega) (by omega) (by omega) (by omega) (by omega) (by omega)]
        · rw [g1 27 (by omega), fo 27 (by omega) (by omega) (by omega) (by omega) (by omega) (by omega) (by omega)]
        · rw [g1 23 (by omega), f23, y9]
          by_cases w : 200 * c ≤ j ∧ j < 200 * c + L'.length
          · rw [if_pos w, if_pos w, y6 _ (by omega)]
          · rw [if_neg w, if_neg w]
      · rw [g1 28 (by omega), f4]
      · rw [rs_o (by omega), mw_at (by omega)]
      · rw [g1 28 (by omega), f5, rs_o (by omega), mw_ne (by omega), z6 19 (by omega), mw_ne (by omega), mw_ne (by omega), mw_at (by omega)]
      · rw [g1 28 (by omega), f6, rs_o (by omega), mw_ne (by omega), z6 22 (by omega), mw_ne (by omega), mw_at (by omega)]
      · rw [rs_o (by omega), mw_oth (by omega), q1 x (by omega), fo x (by omega) (by omega) (by omega) (by omega) (by omega) (by omega) (by omega)]
      · rw [rs_o (by omega), mw_ne (by omega), z6 j (by omega), mw_ne (by omega), mw_ne (by omega), mw_ne (by omega), fo 200 (by omega) (by omega) (by omega) (by omega) (by omega) (by omega) (by omega)]
    · rw [x1] at y1
      have : nI L.length = -1 := congrArg Prod.fst (Option.some.inj y1)
      exact absurd this (nI_m1 (by omega))
  · have m4 : Mc' 28 4 = nI n := by rw [x3.2 4 (by omega), c4]
    have eM1 : xX11_text (nI c) M = some (-1, mw Mc' 28 4 (nI 0)) := by
      rw [eC, x1, e_obi2, if_pos rfl, e91 _ _ m4]
    have fo : ∀ x, x ≠ 28 → x ≠ 30 → x ≠ 31 → x ≠ 32 → mw Mc' 28 4 (nI 0) x = M x := by
      intro x a1 a2 a3 a4
      rw [mw_oth a1, x3.1 x a1 a2 a3 a4, co x a1]
    rcases hTP (mw Mc' 28 4 (nI 0)) (fun x hx => fo x (by omega) (by omega) (by omega) (by omega)) with ⟨L', Mc2, _, _, y1, _, y3, _⟩ | ⟨Mc2, Mr', f2, q2, y1, y2, y3, z1, z2, z5, z6⟩
    · rw [x1] at y3
      have : -1 = nI L'.length := congrArg Prod.fst (Option.some.inj y3)
      exact absurd this.symm (nI_m1 (by omega))
    · rw [x1] at y1
      have y8 : Mc' = Mc2 := congrArg Prod.snd (Option.some.inj y1)
      subst y8
      have e76 : xX12_text_75 (nI c) Mr' = some (-1, mw (mw (mw Mr' 200 11 (nI 0)) 200 19 (nI f2)) 200 22 (nI q2)) := by
        unfold xX12_text_75 xX12_text_76
        rw [e_oml2, if_pos (by decide), mw_ne (by omega), z2.1, e_oli2, e_oml2, mw_ne (by omega), mw_ne (by omega), z2.2, e_oli2, e_oml2]
      have eM2 : xX12_text (nI c) (mw Mc' 28 4 (nI 0)) = some (-1, mw (mw (mw Mr' 200 11 (nI 0)) 200 19 (nI f2)) 200 22 (nI q2)) := by
        rw [eR]
        rcases z1 with z1 | ⟨M3, z1, z3⟩
        · rw [z1, e_obi2, if_pos (by decide), e76]
        · rw [z1, e_obi2, if_neg (by decide), z3, e_obi2, if_pos (by decide), e76]
      have g1 : ∀ x, (x < 200 ∨ x = 201 ∨ x = 202 ∨ x = 203 ∨ x = 205 ∨ 211 ≤ x) → mw (mw (mw Mr' 200 11 (nI 0)) 200 19 (nI f2)) 200 22 (nI q2) x = mw Mc' 28 4 (nI 0) x := fun x hx => by rw [mw_oth (by omega), mw_oth (by omega), mw_oth (by omega), z5 x hx, mw_oth (a := 200) (by omega), mw_oth (a := 200) (by omega), mw_oth (a := 200) (by omega)]
      refine ⟨-1, _, _, S, eM1, eM2, ⟨?_, ?_, ?_⟩, ho, ⟨0, by omega, ?_, ?_, fun i hi => absurd hi (Nat.not_lt_zero _)⟩, ⟨?_, ?_⟩, fun x hx => ?_, fun j hj => ?_⟩
      · rw [g1 201 (by omega), fo 201 (by omega) (by omega) (by omega) (by omega), r1]
      · exact CVS_e r2 (fun x h1 h2 => by rw [g1 x (by omega), fo x (by omega) (by omega) (by omega) (by omega)])
      · exact SCP_e r3 (fun x h1 h2 => by rw [g1 x (by omega), fo x (by omega) (by omega) (by omega) (by omega)])
      · rw [g1 28 (by omega), mw_at (by omega)]
      · rw [mw_ne (by omega), mw_ne (by omega), mw_at (by omega)]
      · rw [g1 28 (by omega), mw_ne (by omega), y2.1, mw_ne (by omega), mw_at (by omega)]
      · rw [g1 28 (by omega), mw_ne (by omega), y2.2, mw_at (by omega)]
      · rw [g1 x (by omega), fo x (by omega) (by omega) (by omega) (by omega)]
      · rw [mw_ne (by omega), mw_ne (by omega), mw_ne (by omega), z6 j (by omega), mw_ne (by omega), mw_ne (by omega), mw_ne (by omega), fo 200 (by omega) (by omega) (by omega) (by omega)]
