/-! ===== a loop opened: both ===== -/
theorem open_both {Mc Mr : j_M} {T : Nat → Nat} {n p c s d pl : Nat} (h : CS Mc T n p) (hd : Mc 28 8 = nI d) (hd3 : d < 3) (hc : Mc 28 7 = nI c) (hr : RT Mr T n 0 1 5 pl p) (hrd : Mr 200 17 = nI d) (hs : Mr 200 16 = nI s) (hs2 : s < 400) : ∃ Mc' z Mr', xX8_openLoop Mc = some Mc' ∧ LK Mc Mc' d ∧ Mc' 31 d = nI c ∧ xX12_oneOf Mr = some (nI z, Mr') ∧ ((z = 1 ∧ ∃ t p2 k' v' pl' nx' M6, p < p2 ∧ 1 ≤ t ∧ t ≤ 9 ∧ CS Mc' T n p2 ∧ Mc' 32 d = nI t ∧ LEX T n p2 k' v' pl' nx' ∧ Mr' = mw (mw M6 207 d (nI s)) 200 17 (nI (d + 1)) ∧ RT M6 T n 0 k' v' pl' nx' ∧ HK Mr M6 ∧ M6 206 (4 * s) = nI 4 ∧ M6 206 (4 * s + 1) = nI t ∧ (∀ j, j < 4 * s ∨ 4 * s + 1 < j → M6 206 j = Mr 206 j)) ∨ (z = 0 ∧ HK Mr Mr' ∧ ∃ f q, f ≠ 0 ∧ f < 10 ∧ CF Mc' f q ∧ RF Mr' f q)) := by
  obtain ⟨k1, v1, pl1, n1, hx1⟩ := LEX_ex T n p
  obtain ⟨k2, v2, pl2, n2, hx2⟩ := LEX_ex T n n1
  obtain ⟨k3, v3, pl3, n3, hx3⟩ := LEX_ex T n n2
  have b1 := LEX_b hx1 h.2.2.2.1
  have b2 := LEX_b hx2 b1.2.2.2.1
  have l1 : k1 = 2 → p < n1 := fun q => Nat.lt_of_le_of_lt b1.1 (b1.2.2.2.2.1 (by rw [q]; decide))
  have l2 : n1 ≤ n2 := Nat.le_trans b2.1 b2.2.2.1
  clear b1 b2
  obtain ⟨A, eA, kA, a0, a1, a2, a3⟩ := x_open h hd hd3 hc hx1 hx2
  obtain ⟨z, B, eB, d1, d2, d3⟩ := r_open hr hrd hd3 hs hs2 hx1 hx2 hx3
  have st : xX12_oneOf Mr = obi (xX12_opens Mr) fun v14 M13 => gz v14 (some (v14, M13)) := by
    unfold xX12_oneOf
    rw [hr.2.2.2.2.2.1, e_oli2, if_pos (by decide)]
  rw [st, eB, e_obi2]
  refine ⟨A, z, B, eA, kA, a0, ?_⟩
  by_cases c1 : k1 = 2
  · by_cases c2 : 1 ≤ v1 ∧ v1 ≤ 9
    · by_cases c3 : k2 = 4
      · obtain ⟨y1, y2⟩ := (a1 c1 c2.1 c2.2).1 c3
        obtain ⟨M6, z1, z2, z3, z4, z5, z6, z7⟩ := (d1 c1 c2.1 c2.2).1 c3
        subst z1
        rw [e_gz1]
        exact ⟨rfl, Or.inl ⟨rfl, v1, n2, k3, v3, pl3, n3, M6, Nat.lt_of_lt_of_le (l1 c1) l2, c2.1, c2.2, y1, y2, hx3, z2, z3, z4, z5, z6, z7⟩⟩
      · obtain ⟨z1, z2, z3⟩ := (d1 c1 c2.1 c2.2).2 c3
        subst z1
        rw [e_gz0]
        exact ⟨rfl, Or.inr ⟨rfl, z3, 1, pl2, by decide, by decide, (a1 c1 c2.1 c2.2).2 c3, z2⟩⟩
    · obtain ⟨z1, z2, z3⟩ := d2 c1 c2
      subst z1
      rw [e_gz0]
      exact ⟨rfl, Or.inr ⟨rfl, z3, 2, pl1, by decide, by decide, a2 c1 c2, z2⟩⟩
  · obtain ⟨z1, z2, z3⟩ := d3 c1
    subst z1
    rw [e_gz0]
    exact ⟨rfl, Or.inr ⟨rfl, z3, 1, pl1, by decide, by decide, a3 c1, z2⟩⟩
/-! ===== a program read: steps ===== -/
def CFR (M M' : j_M) : Prop := (∀ x, x ≠ 28 → x ≠ 30 → x ≠ 31 → x ≠ 32 → M' x = M x) ∧ (∀ j, j < 5 → M' 28 j = M 28 j)
theorem CFR_t {M M' M'' : j_M} (h : CFR M M') (h2 : CFR M' M'') : CFR M M'' := ⟨fun x a b c d => by rw [h2.1 x a b c d, h.1 x a b c d], fun j a => by rw [h2.2 j a, h.2 j a]⟩
theorem CFR_k {M M' : j_M} (h : FK M M') : CFR M M' := ⟨fun x a _ _ _ => h.1 x a, fun j a => h.2 j (by omega) (by omega) (by omega)⟩
theorem CFR_a {M M' : j_M} {c : Nat} (h : AK M M' c) : CFR M M' := ⟨fun x a b _ _ => h.2.1 x a b, fun j a => h.2.2.1 j (by omega) (by omega) (by omega) (by omega)⟩
theorem CFR_l {M M' : j_M} {d : Nat} (h : LK M M' d) : CFR M M' := ⟨fun x a _ c d => h.2.1 x a c d, fun j a => h.2.2.1 j (by omega) (by omega) (by omega)⟩
def RFR (M M' : j_M) : Prop := (∀ x, x ≠ 200 → x ≠ 206 → x ≠ 207 → M' x = M x) ∧ (∀ j, j < 12 ∨ (17 < j ∧ j ≠ 20 ∧ j ≠ 21) → M' 200 j = M 200 j)
theorem RFR_r {M : j_M} : RFR M M := ⟨fun _ _ _ _ => rfl, fun _ _ => rfl⟩
theorem RFR_t {M M' M'' : j_M} (h : RFR M M') (h2 : RFR M' M'') : RFR M M'' := ⟨fun x a b c => by rw [h2.1 x a b c, h.1 x a b c], fun j a => by rw [h2.2 j a, h.2 j a]⟩
theorem RFR_h {M M' : j_M} (h : HK M M') : RFR M M' := ⟨fun x a b _ => h.1 x a b, fun j a => h.2 j (by omega)⟩
theorem RFR_w {M : j_M} {i : Nat} {v : Int32} (hi : i = 16 ∨ i = 17) : RFR M (mw M 200 i v) := ⟨fun x a _ _ => mw_oth a, fun j a => mw_ne (by omega)⟩
theorem RFR_6 {M : j_M} {i : Nat} {v : Int32} : RFR M (mw M 206 i v) := ⟨fun x _ a _ => mw_oth a, fun j a => by rw [mw_oth (by omega)]⟩
theorem RFR_7 {M : j_M} {i : Nat} {v : Int32} : RFR M (mw M 207 i v) := ⟨fun x _ _ a => mw_oth a, fun j a => by rw [mw_oth (by omega)]⟩
/-- the class's faults end it -/
theorem rp_fault {M : j_M} {f l2 g : Nat} (h : M 28 5 = nI f) (hf : f ≠ 0) (hf2 : f < 10) (hl : l2 ≤ 400) : xX8_readProgram_109 (xX8_readProgram_8 (g + 1)) (nI 1) (nI l2) M = some (-1, M) := by
  have e132 : xX8_readProgram_132 M = some (-1, M) := by
    unfold xX8_readProgram_132 xX8_readProgram_154 xX8_readProgram_176
    simp only [h, e_oli2]
    simp (disch := omega) only [e_eq0]
    rw [if_neg hf, if_neg hf, if_neg hf]
  unfold xX8_readProgram_109 xX8_readProgram_124 xX8_readProgram_125
  rw [if_neg (by decide), h, e_oli2, if_neg (by rw [e_eq0 (by omega)]; exact hf), e_add, xX8_readProgram_8.eq_2]
  by_cases c : nI 400 < nI (l2 + 1)
  · rw [if_pos c, e132]
  · rw [if_neg c, if_pos (by decide), e132]
theorem rp_104 {M : j_M} {pl l2 g : Nat} (h : M 28 12 = nI pl) (hl : l2 ≤ 400) : ∃ M', xX8_readProgram_104 (xX8_readProgram_8 (g + 1)) (nI 1) (nI l2) M = some (-1, M') ∧ CF M' 1 pl ∧ FK M M' := by
  obtain ⟨M2, e2, c2, k2, _⟩ := x_refuse (f := 1) h
  unfold xX8_readProgram_104
  rw [e2, e_obv2, rp_fault c2.1 (by decide) (by decide) hl]
  exact ⟨M2, rfl, c2, k2⟩
theorem rp_on {M : j_M} {l2 g : Nat} (h : M 28 5 = nI 0) : xX8_readProgram_109 (xX8_readProgram_8 g) (nI 1) (nI l2) M = xX8_readProgram_8 g (nI 1) (nI (l2 + 1)) M := by
  unfold xX8_readProgram_109 xX8_readProgram_125
  rw [if_neg (by decide), h, e_oli2, if_pos (by decide), e_add]
theorem rp_57 {M : j_M} {K : Int32 → Int32 → j_M → Option (Int32 × j_M)} {k v l2 : Nat} (h : M 28 10 = nI k) (hk : k ≤ 6) (hv : k = 1 → M 28 11 = nI v) (hv2 : k = 1 → v < 13) : xX8_readProgram_57 K (nI 1) (nI l2) M = if k = 1 ∧ v = 5 then obv (xX8_openLoop M) fun M3 => xX8_readProgram_109 K (nI 1) (nI l2) M3 else if k = 1 ∧ v < 5 then obv (xX8_readAct (nI 0) M) fun M3 => xX8_readProgram_109 K (nI 1) (nI l2) M3 else xX8_readProgram_104 K (nI 1) (nI l2) M := by
  unfold xX8_readProgram_57 xX8_readProgram_80
  simp only [h, e_oli2]
  by_cases c : k = 1
  · have hv3 := hv2 c
    simp only [hv c]
    simp (disch := omega) only [e_eq, e_le]
    rw [if_pos c, if_pos c]
    by_cases c5 : v = 5
    · rw [if_pos c5, if_pos ⟨c, c5⟩]
    · rw [if_neg c5, if_neg (show ¬ (k = 1 ∧ v = 5) from fun q => c5 q.2)]
      by_cases c6 : v < 5
      · rw [if_neg (by omega), if_pos ⟨c, c6⟩]
      · rw [if_pos (by omega), if_neg (fun q => c6 q.2)]
  · have ck : ¬ nI k = nI 1 := by rw [e_eq (by omega) (by omega)]; exact c
    rw [if_neg ck, if_neg ck, if_neg (show ¬ (k = 1 ∧ v = 5) from fun q => c q.1), if_neg (fun q => c q.1)]
theorem rp_tok {M : j_M} {T : Nat → Nat} {n p k v pl nx d l2 : Nat} (h : CS M T n p) (hx : LEX T n p k v pl nx) (hd : M 28 8 = nI d) (hd3 : d ≤ 3) (hl : l2 ≤ p) : ∃ M1, TOKC M M1 k v pl nx ∧ CS M1 T n nx ∧ ∀ g, xX8_readProgram_8 (g + 1) (nI 1) (nI l2) M = if k = 0 then xX8_readProgram_109 (xX8_readProgram_8 g) (nI 0) (nI l2) M1 else if k = 5 then (if d = 0 then xX8_readProgram_57 (xX8_readProgram_8 g) (nI 1) (nI l2) M1 else obv (xX8_closeLoop M1) fun M5 => xX8_readProgram_109 (xX8_readProgram_8 g) (nI 1) (nI l2) M5) else xX8_readProgram_57 (xX8_readProgram_8 g) (nI 1) (nI l2) M1 := by
  have hb := LEX_b hx h.2.2.2.1
  have hk6 := hb.2.2.2.2.2.1
  have hn := h.1.1
  have hpn := h.2.2.2.1
  obtain ⟨M1, e1, t1⟩ := x_readToken h.1 h.2.1 h.2.2.2.1 hx
  refine ⟨M1, t1, CS_tok h t1 hb.2.2.2.1, fun g => ?_⟩
  clear hb
  rw [xX8_readProgram_8.eq_2, if_neg (by rw [e_lt (by omega) (by omega)]; omega), if_neg (by decide), e1, e_obv2, t1.2.1, e_oli2, e_oli2, t1.2.2.2.2.2 8 (by omega), hd, e_oli2]
  simp (disch := omega) only [e_eq, e_eq0, e_le0]
  by_cases c0 : k = 0
  · rw [if_pos c0, if_pos c0]
  · rw [if_neg c0, if_neg c0]
    by_cases c5 : k = 5
    · rw [if_pos c5, if_pos c5]
      by_cases c6 : d = 0
      · rw [if_pos (by omega), if_pos c6]
      · rw [if_neg (by omega), if_neg c6]
    · rw [if_neg c5, if_neg c5]
theorem ra_19 {M : j_M} {T : Nat → Nat} {n k v pl nx d : Nat} (h : RT M T n 0 k v pl nx) (hv : k = 1 → v < 13) (hd : M 200 17 = nI d) (hd3 : d ≤ 3) (g : Nat) : xX12_readsAll_19 (g + 1) M = if k = 0 ∧ d = 0 then some (nI 1, M) else xX12_readsAll_33 (xX12_readsAll_19 g) M := by
  have t0 := (tkm_s (f := 0) hv).2.2.2
  have tl := tkm_le (f := 0) hv
  rw [xX12_readsAll_19.eq_2, h.2.2.2.2.2.1, e_oli2, hd, e_oli2]
  simp (disch := omega) only [e_eq0, e_le0, t0]
  by_cases c : k = 0
  · rw [if_pos c]
    by_cases c2 : d = 0
    · rw [if_pos (by omega), if_pos ⟨c, c2⟩]
    · rw [if_neg (by omega), if_neg (fun q => c2 q.2)]
  · rw [if_neg c, if_neg (fun q => c q.1)]
theorem tkm_w {k v : Nat} (hk : k = 1 → 1 ≤ v ∧ v < 13) : (3 ≤ tkm 0 k v ∧ tkm 0 k v ≤ 7) = (k = 1 ∧ v ≤ 5) := by
  unfold tkm
  apply propext
  (repeat' split) <;> omega
theorem ra_33 {M : j_M} {T : Nat → Nat} {K : j_M → Option (Int32 × j_M)} {n k v pl nx s : Nat} (h : RT M T n 0 k v pl nx) (hv : k = 1 → 1 ≤ v ∧ v < 13) (hs : M 200 16 = nI s) (hs2 : k ≠ 0 → s < 400) : xX12_readsAll_33 K M = if k = 5 then (obi (xX12_closes M) fun v14 M13 => (if v14 = (0 : Int32) then some ((nI 0), M13) else K M13)) else if k = 1 ∧ v ≤ 5 then (obi (xX12_oneOf (mw M 206 (4 * s + 2) (nI 0))) fun v8 M7 => (if v8 = (0 : Int32) then some ((nI 0), M7) else oli (M7 200 16) fun v9 => oml (mw M7 200 16 (v9 + (nI 1))) fun M10 => K M10)) else obi (xX12_bad (nI 1) M) fun v12 M11 => gz v12 (some (v12, M11)) := by
  have t0 := (tkm_s (f := 0) (fun q => (hv q).2)).2.2.1
  have tw := tkm_w hv
  have tl := tkm_le (f := 0) (fun q => (hv q).2)
  unfold xX12_readsAll_33
  rw [h.2.2.2.2.2.1, e_oli2, e_oli2, m_isIn M (by omega) (by omega) (by omega), e_obi2]
  simp (disch := omega) only [e_eq, t0, tw]
  by_cases c : k = 5
  · rw [if_pos c, if_pos c]
  · rw [if_neg c, if_neg c]
    by_cases c2 : k = 1 ∧ v ≤ 5
    · have hs3 := hs2 (by omega)
      rw [if_pos c2, if_neg (by decide), if_pos c2, hs, e_oli2, e_mul, e_add, e_gd (by omega) (by omega), e_ix2 (by omega), e_oml2]
    · rw [if_neg c2, if_pos (by decide), if_neg c2]
theorem ra_bad {M : j_M} {pl : Nat} (h : M 200 14 = nI pl) : ∃ M', (obi (xX12_bad (nI 1) M) fun v12 M11 => gz v12 (some (v12, M11))) = some (nI 0, M') ∧ RF M' 1 pl ∧ GK M M' := by
  obtain ⟨M1, e1, r1, g1⟩ := r_bad (f := 1) h
  rw [e1, e_obi2, e_gz0]
  exact ⟨M1, rfl, r1, g1⟩
