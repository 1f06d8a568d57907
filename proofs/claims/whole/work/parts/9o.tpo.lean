/-! ===== text: a program ===== -/
def MOK (m : Nat) : Prop := ∃ v x y, m = v + 16 * x + 2048 * y ∧ 1 ≤ v ∧ v < 5 ∧ x < 10 ∧ y < 10000 ∧ (v < 4 → x < 8)
theorem rep_mem {L : List Nat} {m : Nat} : ∀ t, m ∈ rep t L → m ∈ L
  | 0, h => absurd (show m ∈ ([] : List Nat) from h) (by simp)
  | t + 1, h => by
    rcases List.mem_append.1 (show m ∈ L ++ rep t L from h) with q | q
    · exact q
    · exact rep_mem t q
theorem SEG_ok {F : Nat → Int32} {e a b : Nat} {L : List Nat} (h : SEG F e a b L) : ∀ m, m ∈ L → MOK m := by
  refine h (fun _ _ _ L => ∀ m, m ∈ L → MOK m) (fun e a m hm => absurd hm (by simp)) (fun e a b L v x y h ha m hm => ?_) (fun e a o b L t B h hl hb m hm => ?_)
  · rcases List.mem_append.1 hm with q | q
    · exact h m q
    · have q2 : m = v + 16 * x + 2048 * y := by simpa using q
      exact ⟨v, x, y, q2, ha.2.2.2⟩
  · rcases List.mem_append.1 hm with q | q
    · exact h m q
    · exact hb m (rep_mem t q)
theorem getD_mem {L : List Nat} {i : Nat} (h : i < L.length) : L.getD i 0 ∈ L := by
  rw [List.getD_eq_getElem?_getD, List.getElem?_eq_getElem h]
  exact List.getElem_mem h
theorem fld_a {m : Nat} (h : MOK m) : acv (fld m) = m := by
  obtain ⟨v, x, y, rfl, h1, h2, h3, h4, h5⟩ := h
  show ((v + 16 * x + 2048 * y) % 16 - 1 + 1) + 16 * ((v + 16 * x + 2048 * y) / 16 % 128) + 2048 * ((v + 16 * x + 2048 * y) / 2048) = _
  omega
theorem fld_ok {m : Nat} (h : MOK m) : AOK (fld m) := by
  obtain ⟨v, x, y, rfl, h1, h2, h3, h4, h5⟩ := h
  have e0 : fld (v + 16 * x + 2048 * y) 0 = v - 1 := by
    show (v + 16 * x + 2048 * y) % 16 - 1 = _
    omega
  have e1 : fld (v + 16 * x + 2048 * y) 1 = x := by
    show (v + 16 * x + 2048 * y) / 16 % 128 = _
    omega
  have e2 : fld (v + 16 * x + 2048 * y) 2 = y := by
    show (v + 16 * x + 2048 * y) / 2048 = _
    omega
  unfold AOK
  rw [e0, e1, e2]
  omega
/-- reading a program, both: what comes out -/
def TPO (Mc Mr : j_M) (X : Option (Int32 × j_M)) : Prop :=
  (∃ L Mc' M3 Mr', L.length ≤ 200 ∧ (∀ m, m ∈ L → MOK m) ∧ X = some (nI L.length, Mc') ∧ Mc' 28 5 = nI 0 ∧ Mc' 28 6 = -1 ∧ (∀ j, j < L.length → Mc' 30 j = nI (L.getD j 0)) ∧ CFR Mc Mc' ∧ xX12_readsAll Mr = some (nI 1, M3) ∧ xX12_makes M3 = some (nI 1, Mr') ∧ Mr' 200 18 = nI L.length ∧ CON Mr' 0 L ∧ (∀ x, (x < 200 ∨ x = 201 ∨ x = 202 ∨ x = 203 ∨ x = 205 ∨ 211 ≤ x) → Mr' x = Mr x) ∧ (∀ j, j < 12 ∨ (18 < j ∧ j ≠ 20 ∧ j ≠ 21) → Mr' 200 j = Mr 200 j)) ∨
  (∃ Mc' Mr' f q, X = some (-1, Mc') ∧ CF Mc' f q ∧ CFR Mc Mc' ∧ ((xX12_readsAll Mr = some (nI 0, Mr')) ∨ (∃ M3, xX12_readsAll Mr = some (nI 1, M3) ∧ xX12_makes M3 = some (nI 0, Mr'))) ∧ RF Mr' f q ∧ (∀ x, (x < 200 ∨ x = 201 ∨ x = 202 ∨ x = 203 ∨ x = 205 ∨ 211 ≤ x) → Mr' x = Mr x) ∧ (∀ j, j < 12 ∨ (18 < j ∧ j ≠ 20 ∧ j ≠ 21) → Mr' 200 j = Mr 200 j))
theorem TPO_of {Mc Mr Mc0 Mr0 : j_M} {n : Nat} {X Y : Option (Int32 × j_M)} (h : POUT Mc Mr n X Y) (hc : CFR Mc0 Mc) (hr : RFR Mr0 Mr) (hY : xX12_readsAll Mr0 = Y) (hn : n ≤ 400) (h11 : Mr 200 11 = nI n) : TPO Mc0 Mr0 X := by
  have fr : ∀ {A : j_M}, RFR Mr A → (∀ x, (x < 200 ∨ x = 201 ∨ x = 202 ∨ x = 203 ∨ x = 205 ∨ 211 ≤ x) → A x = Mr0 x) ∧ (∀ j, j < 12 ∨ (18 < j ∧ j ≠ 20 ∧ j ≠ 21) → A 200 j = Mr0 200 j) := by
    intro A hA
    have := RFR_t hr hA
    exact ⟨fun x hx => this.1 x (by omega) (by omega) (by omega), fun j hj => this.2 j (by omega)⟩
  rcases h with ⟨A, B, s, L, a1, a2, a3, a4, a5, a6, a7, a8, a9, b1, b2, b3, b4⟩ | ⟨A, B, f, q, a1, a2, a3, a4, a5, a6, a7, a8⟩
  · have f1 := fr b4
    have e176 : ∀ M : j_M, M 28 5 = nI 0 → xX8_readProgram_176 M = some (M 28 7, M) := by
      intro M hM
      unfold xX8_readProgram_176
      rw [hM, e_oli2, if_pos (by decide), e_oli2]
    rcases r_makes b1 b2 b3 with ⟨q, M', e1, r1, r2, r3, r4⟩ | ⟨q, M', e1, r1⟩
    · refine Or.inl ⟨L, A, B, M', q, SEG_ok b1, ?_, a2, a3, fun j hj => a7 j hj (by omega), CFR_t hc a8, by rw [hY, a9], e1, r1, r4, fun x hx => ?_, fun j hj => ?_⟩
      · rw [a1]
        unfold xX8_readProgram_154
        rw [a2, e_oli2, if_pos (by decide), a5, e_oli2, if_pos (by rw [e_le (by omega) (by omega)]; exact q), e176 A a2, a5]
      · rw [r2 x (by omega) (by omega) (by omega) (by omega), f1.1 x hx]
      · rw [r3 j (by omega) (by omega), f1.2 j hj]
    · obtain ⟨A2, e2, c2, k2, _⟩ := x_refuse (f := 4) a4
      refine Or.inr ⟨A2, M', 4, n, ?_, c2, CFR_t hc (CFR_t a8 (CFR_k k2)), Or.inr ⟨B, by rw [hY, a9], e1⟩, ⟨r1.1, ?_⟩, fun x hx => ?_, fun j hj => ?_⟩
      · rw [a1]
        unfold xX8_readProgram_154
        rw [a2, e_oli2, if_pos (by decide), a5, e_oli2, if_neg (by rw [e_le (by omega) (by omega)]; omega), e2, e_obv2]
        unfold xX8_readProgram_176
        rw [c2.1, e_oli2, if_neg (by decide)]
      · rw [r1.2.1, b4.2 11 (by omega), h11]
      · rw [r1.2.2.1 x (by omega) (by omega) (by omega) (by omega), f1.1 x hx]
      · rw [r1.2.2.2 j (by omega) (by omega) (by omega) (by omega), f1.2 j hj]
  · have f1 := fr a8
    exact Or.inr ⟨A, B, f, q, a1, a2, CFR_t hc a5, Or.inl (by rw [hY, a6]), a7, f1.1, f1.2⟩
theorem t_prog {Mc Mr : j_M} {T : Nat → Nat} {n : Nat} (h1 : TC Mc T n) (h2 : CST Mc) (h3 : Mc 28 5 = nI 0) (h4 : Mc 28 6 = -1) (g1 : TR Mr T n) (g2 : Mr 200 23 = nI 0) : TPO Mc Mr (xX8_readProgram Mc) := by
  obtain ⟨k, v, pl, nx, hx⟩ := LEX_ex T n 0
  have hn := h1.1
  have eC : xX8_readProgram Mc = xX8_readProgram_8 fu (nI 1) (nI 0) (mw (mw (mw Mc 28 9 (nI 0)) 28 7 (nI 0)) 28 8 (nI 0)) := by
    unfold xX8_readProgram xX8_startReading
    rw [e_oml2, e_oml2, e_oml2, e_obv2]
  have fC : CFR Mc (mw (mw (mw Mc 28 9 (nI 0)) 28 7 (nI 0)) 28 8 (nI 0)) := ⟨fun x a _ _ _ => by rw [mw_oth a, mw_oth a, mw_oth a], fun j a => by rw [mw_ne (by omega), mw_ne (by omega), mw_ne (by omega)]⟩
  have c7 : mw (mw (mw Mc 28 9 (nI 0)) 28 7 (nI 0)) 28 8 (nI 0) 28 7 = nI 0 := by rw [mw_ne (by omega), mw_at (by omega)]
  have c8 : mw (mw (mw Mc 28 9 (nI 0)) 28 7 (nI 0)) 28 8 (nI 0) 28 8 = nI 0 := mw_at (by omega)
  have cS : CS (mw (mw (mw Mc 28 9 (nI 0)) 28 7 (nI 0)) 28 8 (nI 0)) T n 0 := by
    refine ⟨⟨h1.1, ?_, fun i hi => ?_⟩, ?_, ?_, Nat.zero_le _, ?_⟩
    · rw [fC.2 4 (by omega)]; exact h1.2.1
    · rw [fC.1 29 (by omega) (by omega) (by omega) (by omega)]; exact h1.2.2 i hi
    · rw [mw_ne (by omega), mw_ne (by omega), mw_at (by omega)]
    · rw [mw_ne (by omega), mw_ne (by omega), mw_ne (by omega), h3]
    · rw [mw_ne (by omega), mw_ne (by omega), mw_ne (by omega), h4]
  rw [eC]
  generalize mw (mw (mw Mc 28 9 (nI 0)) 28 7 (nI 0)) 28 8 (nI 0) = Mc1 at *
  have gT : TR (mw (mw (mw Mr 200 16 (nI 0)) 200 17 (nI 0)) 200 12 (nI 0)) T n := by
    refine ⟨g1.1, ?_, fun i hi => ?_⟩
    · rw [mw_ne (by omega), mw_ne (by omega), mw_ne (by omega)]; exact g1.2.1
    · rw [mw_oth (by omega), mw_oth (by omega), mw_oth (by omega)]; exact g1.2.2 i hi
  obtain ⟨Mr1, e1, t1⟩ := r_goesOn (f := 0) gT (mw_at (by omega)) (by rw [mw_ne (by omega), mw_ne (by omega), mw_ne (by omega), g2]) (by omega) (Nat.zero_le _) hx
  have eR : xX12_readsAll Mr = xX12_readsAll_19 fu Mr1 := by
    unfold xX12_readsAll
    rw [e_oml2, e_oml2, e_oml2, e1, e_obv2]
  obtain ⟨q1, q2, q3, q4, q5, q6⟩ := t1
  have hb := LEX_b hx (Nat.zero_le n)
  have rT : RT Mr1 T n 0 k v pl nx := by
    refine ⟨⟨g1.1, ?_, fun i hi => ?_⟩, ?_, by omega, hb.2.2.2.1, q1, q2, q3, q4⟩
    · rw [q6 11 (by omega)]; exact gT.2.1
    · rw [q5 205 (by omega)]; exact gT.2.2 i hi
    · rw [q6 23 (by omega), mw_ne (by omega), mw_ne (by omega), mw_ne (by omega), g2]
  have fR : RFR Mr Mr1 := ⟨fun x a _ _ => by rw [q5 x a, mw_oth a, mw_oth a, mw_oth a], fun j a => by rw [q6 j (by omega), mw_ne (by omega), mw_ne (by omega), mw_ne (by omega)]⟩
  have hp := rp_both (gc := 999998 - n) (gr := 999999 - n) n Mc1 Mr1 0 0 0 (fun _ => 0) (fun _ => 0) (fun _ => 0) [] k v pl nx 0 (by omega) ⟨cS, CST_f h2 (fun x hx => fC.1 x (by omega) (by omega) (by omega) (by omega)), c8, by omega, c7, fun i hi => absurd hi (Nat.not_lt_zero _), fun j hj => absurd hj (Nat.not_lt_zero _), by rw [q6 17 (by omega), mw_ne (by omega), mw_at (by omega)], by rw [q6 16 (by omega), mw_ne (by omega), mw_ne (by omega), mw_at (by omega)], Nat.le_refl _, fun i hi => absurd hi (Nat.not_lt_zero _), SEG_nil⟩ hx rT (Nat.le_refl _)
  rw [show 999998 - n + n + 2 = fu by unfold fu; omega, show 999999 - n + n + 1 = fu by unfold fu; omega] at hp
  exact TPO_of hp fC fR eR hn (by rw [fR.2 11 (by omega)]; exact g1.2.1)
