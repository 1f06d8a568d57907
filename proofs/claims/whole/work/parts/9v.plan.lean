theorem ln_both {Mc Mr : j_M} {T : Nat → Nat} {n p s k v pl : Nat} (h : CS Mc T n p) (hC : CST Mc) (h10 : Mc 28 10 = nI k) (hk0 : k ≠ 0) (hk : k ≤ 6) (h11 : k = 1 ∨ k = 2 → Mc 28 11 = nI v) (hv : k = 1 → 1 ≤ v ∧ v < 13) (hv2 : k = 2 → v < 10000) (h12 : Mc 28 12 = nI pl) (h7 : Mc 28 7 = nI s) (hs : s ≤ 24) (hr : RT Mr T n 1 k v pl p) (h16 : Mr 200 16 = nI s) : ∃ A B, xX8_readLine Mc = some A ∧ LNC Mc A s ∧ HK Mr B ∧ ((s < 24 ∧ LNG A B Mr T n p s ∧ ∀ g, xX12_readsPlan_14 (g + 1) Mr = xX12_readsPlan_14 g (mw B 200 16 (nI (s + 1)))) ∨ (∃ f q, f ≠ 0 ∧ f < 10 ∧ CF A f q ∧ RF B f q ∧ ∀ g, xX12_readsPlan_14 (g + 1) Mr = some (nI 0, B))) := by
  obtain ⟨y1, y2, y3, y4, y5⟩ := yl_13 h.2.2.1 h10 hk h11 (fun q => (hv q).2) hv2 h12 h7 hs
  have r14 := r_p14 hr hk0 hv hv2 h16 hs
  have pl14 := hr.2.2.2.2.2.2.1
  have hp := h.2.2.2.1
  by_cases c0 : k = 2 ∨ (k = 1 ∧ 7 ≤ v)
  · by_cases c2 : k = 2 ∧ 5 < v
    · obtain ⟨A, e1, c1, f1⟩ := y2 c2.1 c2.2
      obtain ⟨B, e2, c3, g2⟩ := r_pbad (f := 2) pl14
      exact ⟨A, B, e1, LNC_k f1, HK_g g2, Or.inr ⟨2, pl, by decide, by decide, c1, c3, fun g => by rw [r14 g, if_pos c2, e2]⟩⟩
    · by_cases c3 : s = 24
      · obtain ⟨A, e1, c1, f1⟩ := y3 (by omega) c3
        obtain ⟨B, e2, c4, g2⟩ := r_pbad (f := 3) pl14
        exact ⟨A, B, e1, LNC_k f1, HK_g g2, Or.inr ⟨3, pl, by decide, by decide, c1, c4, fun g => by rw [r14 g, if_neg c2, if_pos c0, if_pos c3, e2]⟩⟩
      · have hs2 : s < 24 := by omega
        have r15 : ∀ g, xX12_readsPlan_14 (g + 1) Mr = obi (xX12_aLine (z4 Mr s)) fun v2 M1 => (if v2 = (0 : Int32) then some ((nI 0), M1) else oli (M1 200 16) fun v3 => oml (mw M1 200 16 (v3 + (nI 1))) fun M4 => xX12_readsPlan_14 g M4) := fun g => by rw [r14 g, if_neg c2, if_pos c0, if_neg c3, r_92 h16 hs2]
        have z16 : z4 Mr s 200 16 = nI s := by rw [z4_o (by omega), h16]
        have fin : ∀ {A B : j_M} {z p' : Nat} {Mz : j_M}, p ≤ p' → (∀ j, j < 4 * s → Mz 206 j = Mr 206 j) → xX12_aLine (z4 Mr s) = some (nI z, B) → HK (z4 Mr s) B → ((z = 1 ∧ LNG A B Mz T n p' s) ∨ FLB A B z) → HK Mr B ∧ ((s < 24 ∧ LNG A B Mr T n p s ∧ ∀ g, xX12_readsPlan_14 (g + 1) Mr = xX12_readsPlan_14 g (mw B 200 16 (nI (s + 1)))) ∨ (∃ f q, f ≠ 0 ∧ f < 10 ∧ CF A f q ∧ RF B f q ∧ ∀ g, xX12_readsPlan_14 (g + 1) Mr = some (nI 0, B))) := by
          intro A B z p' Mz hpp hMz eB kB hz
          refine ⟨HK_t z4_k kB, ?_⟩
          rcases hz with ⟨rfl, g, p2, k', v', pl', nx', q1, q2, q3, q4, q5, q6, q7, q8, q9⟩ | ⟨rfl, f, q, q1, q2, q3, q4⟩
          · refine Or.inl ⟨hs2, ⟨g, p2, k', v', pl', nx', by omega, q2, q3, q4, q5, q6, q7, fun j hj => by rw [q8 j hj, hMz j hj], q9⟩, fun g => ?_⟩
            rw [r15 g, eB, e_obi2, if_neg (by decide), kB.2 16 (by omega), z16, e_oli2, e_oml2, e_add]
          · refine Or.inr ⟨f, q, q1, q2, q3, q4, fun g => ?_⟩
            rw [r15 g, eB, e_obi2, if_pos (by decide)]
        by_cases k2 : k = 2
        · subst k2
          have hv5 : v ≤ 5 := by omega
          have e1 := y5 rfl hv5 hs2
          obtain ⟨k1, v1, pl1, n1, hx1⟩ := LEX_ex T n p
          have b1 := LEX_b hx1 hp
          have b2 := b1.2.2.2.2.2.2.2.1
          have b3 := b1.2.2.2.2.2.1
          have b4 := b1.2.2.2.1
          have b5 : p ≤ n1 := Nat.le_trans b1.1 b1.2.2.1
          clear b1
          obtain ⟨M2, e2, t2⟩ := x_readToken h.1 h.2.1 hp hx1
          have c4 := CS_tok h t2 b4
          obtain ⟨w1, w2⟩ := yl_79 (u := v) h.2.2.1 e2 t2 b3 (fun q => (b2 q).2)
          obtain ⟨Mq, rq, kq, q1, q2, q3, q4⟩ := r_ofCpu (M := z4 Mr s) (s := s) (z4_r hr) hv5 z16 hs2 hx1 b2
          have ea : xX12_aLine (z4 Mr s) = obi (xX12_ofCpu (z4 Mr s)) fun v7 M6 => gz v7 (some (v7, M6)) := by
            unfold xX12_aLine
            rw [(z4_r hr).2.2.2.2.2.1, show tkm 1 2 v = 2 from rfl, e_oli2, if_pos rfl]
          by_cases cw : k1 = 1 ∧ (v1 ≤ 3 ∨ v1 = 6)
          · obtain ⟨k1', cw2⟩ := cw
            subst k1'
            have b6 := b2 rfl
            have m11 : M2 28 11 = nI v1 := t2.2.2.2.1 (Or.inl rfl)
            obtain ⟨A, z, B, eA, lA, eB, kB, hz⟩ := ln_cpu (u := v) c4 (CST_f hC (fun x hx => t2.2.2.2.2.1 x (by omega))) m11 (by omega) (by omega) (by rw [t2.2.2.2.2.2 7 (by omega), h7]) hs2 rq (by rw [kq.2 16 (by omega), z16]) q1 (by rw [q2 _ (by omega), z4_z (by omega)])
            have hz01 : z = 0 ∨ z = 1 := by
              rcases hz with ⟨q, _⟩ | ⟨q, _⟩
              · exact Or.inr q
              · exact Or.inl q
            have ea2 : xX12_aLine (z4 Mr s) = some (nI z, B) := by
              rw [ea, q3 rfl cw2, eB, e_obi2]
              rcases hz01 with rfl | rfl
              · rw [e_gz0]
              · rw [e_gz1]
            have := fin (A := A) (B := B) (Mz := Mq) b5 (fun j hj => by rw [q2 j (by omega), z4_l hj]) ea2 (HK_t kq kB) hz
            exact ⟨A, B, by rw [e1, w1 rfl cw2, eA], LNC_t (LNC_k (FK_tok t2)) lA, this⟩
          · obtain ⟨A, eA, cA, fA⟩ := w2 cw
            obtain ⟨B, eB, rB, kB⟩ := q4 cw
            have ea2 : xX12_aLine (z4 Mr s) = some (nI 0, B) := by rw [ea, eB, e_obi2, e_gz0]
            have := fin (A := A) (B := B) (Mz := Mr) (p' := p) (z := 0) (Nat.le_refl _) (fun _ _ => rfl) ea2 kB (Or.inr ⟨rfl, 1, pl1, by decide, by decide, cA, rB⟩)
            exact ⟨A, B, by rw [e1, eA], LNC_k fA, this⟩
        · have k1 : k = 1 ∧ 7 ≤ v := by omega
          obtain ⟨rfl, c7⟩ := k1
          have e1 := y4 rfl c7 hs2
          have b2 := hv rfl
          obtain ⟨A, z, B, eA, lA, eB, kB, hz⟩ := ln_oth h hC (h11 (Or.inl rfl)) c7 b2.2 h7 hs2 (z4_r (s := s) hr) z16 (z4_z (by omega)) (z4_z (by omega))
          have := fin (A := A) (B := B) (Mz := z4 Mr s) (Nat.le_refl _) (fun j hj => z4_l hj) eB kB hz
          exact ⟨A, B, by rw [e1, eA], lA, this⟩
  · obtain ⟨A, e1, c1, f1⟩ := y1 c0
    obtain ⟨B, e2, c3, g2⟩ := r_pbad (f := 1) pl14
    exact ⟨A, B, e1, LNC_k f1, HK_g g2, Or.inr ⟨1, pl, by decide, by decide, c1, c3, fun g => by rw [r14 g, if_neg (show ¬ (k = 2 ∧ 5 < v) by omega), if_neg c0, e2]⟩⟩
/-! ===== the plan read: both ===== -/
def PLS (Mc Mr : j_M) (T : Nat → Nat) (n p s : Nat) (Q : Nat → Nat) : Prop :=
  CS Mc T n p ∧ CST Mc ∧ Mc 28 7 = nI s ∧ s ≤ 24 ∧ Mr 200 16 = nI s ∧ (∀ i, i < s → POK (fun j => Q (4 * i + j)) ∧ Mc 30 i = nI (pcv (fun j => Q (4 * i + j)))) ∧ (∀ j, j < 4 * s → Mr 206 j = nI (Q j))
def PLO (Mc Mr : j_M) (X Y : Option (Int32 × j_M)) : Prop :=
  (∃ (Mc' Mr' : j_M) (s : Nat) (Q : Nat → Nat), X = some (nI s, Mc') ∧ s ≤ 24 ∧ Mc' 28 5 = nI 0 ∧ Mc' 28 6 = -1 ∧ (∀ i, i < s → POK (fun j => Q (4 * i + j)) ∧ Mc' 30 i = nI (pcv (fun j => Q (4 * i + j)))) ∧ CFR Mc Mc' ∧ Y = some (nI 1, Mr') ∧ Mr' 200 16 = nI s ∧ (∀ j, j < 4 * s → Mr' 206 j = nI (Q j)) ∧ RFR Mr Mr') ∨
  (∃ Mc' Mr' f q, X = some (-1, Mc') ∧ CF Mc' f q ∧ CFR Mc Mc' ∧ Y = some (nI 0, Mr') ∧ RF Mr' f q ∧ RFR Mr Mr')
theorem PLO_t {Mc Mr Mc1 Mr1 : j_M} {X Y : Option (Int32 × j_M)} (hc : CFR Mc Mc1) (hr : RFR Mr Mr1) (h : PLO Mc1 Mr1 X Y) : PLO Mc Mr X Y := by
  rcases h with ⟨A, B, s, Q, a1, a2, a3, a4, a5, a6, a7, a8, a9, b1⟩ | ⟨A, B, f, q, a1, a2, a3, a4, a5, a6⟩
  · exact Or.inl ⟨A, B, s, Q, a1, a2, a3, a4, a5, CFR_t hc a6, a7, a8, a9, RFR_t hr b1⟩
  · exact Or.inr ⟨A, B, f, q, a1, a2, CFR_t hc a3, a4, a5, RFR_t hr a6⟩
theorem CFR_n {M A : j_M} {s : Nat} (h : LNC M A s) : CFR M A := ⟨fun x a b _ _ => h.1 x a b, h.2.1⟩
/-- the class's reading: a token, and what follows -/
theorem pl_tok {M : j_M} {T : Nat → Nat} {n p k v pl nx l2 : Nat} (h : CS M T n p) (hx : LEX T n p k v pl nx) (hl : l2 ≤ p) : ∃ M1, TOKC M M1 k v pl nx ∧ CS M1 T n nx ∧ (k = 0 → ∀ g, xX8_readPlan_8 (g + 2) (nI 1) (nI l2) M = xX8_readPlan_58 M1) ∧ (k ≠ 0 → ∀ g A, xX8_readLine M1 = some A → (A 28 5 = nI 0 → xX8_readPlan_8 (g + 2) (nI 1) (nI l2) M = xX8_readPlan_8 (g + 1) (nI 1) (nI (l2 + 1)) A) ∧ (∀ f, f ≠ 0 → f < 10 → A 28 5 = nI f → xX8_readPlan_8 (g + 2) (nI 1) (nI l2) M = some (-1, A))) := by
  have hb := LEX_b hx h.2.2.2.1
  have hk6 := hb.2.2.2.2.2.1
  have hn := h.1.1
  have hpn := h.2.2.2.1
  obtain ⟨M1, e1, t1⟩ := x_readToken h.1 h.2.1 h.2.2.2.1 hx
  have hnx := hb.2.2.2.1
  clear hb
  have stop : ∀ g (A : j_M), xX8_readPlan_8 (g + 1) (nI 0) (nI (l2 + 1)) A = xX8_readPlan_58 A := by
    intro g A
    rw [xX8_readPlan_8.eq_2]
    by_cases c : nI 400 < nI (l2 + 1)
    · rw [if_pos c]
    · rw [if_neg c, if_pos (by decide)]
  have st : ∀ g, xX8_readPlan_8 (g + 2) (nI 1) (nI l2) M = if k = 0 then xX8_readPlan_8 (g + 1) (nI 0) (nI (l2 + 1)) M1 else obv (xX8_readLine M1) fun M3 => oli (M3 28 5) fun v4 => (if v4 = (0 : Int32) then xX8_readPlan_51 (xX8_readPlan_8 (g + 1)) (nI l2) (nI 1) M3 else xX8_readPlan_51 (xX8_readPlan_8 (g + 1)) (nI l2) (nI 0) M3) := by
    intro g
    rw [show g + 2 = (g + 1) + 1 from rfl, xX8_readPlan_8.eq_2, if_neg (by rw [e_lt (by omega) (by omega)]; omega), if_neg (by decide), e1, e_obv2, t1.2.1, e_oli2, e_add]
    simp (disch := omega) only [e_eq0]
  refine ⟨M1, t1, CS_tok h t1 hnx, fun c g => by rw [st, if_pos c, stop], fun c g A eA => ⟨fun h5 => ?_, fun f hf hf2 h5 => ?_⟩⟩
  · rw [st, if_neg c, eA, e_obv2, h5, e_oli2, if_pos (by decide)]
    unfold xX8_readPlan_51
    rw [e_add]
  · rw [st, if_neg c, eA, e_obv2, h5, e_oli2, if_neg (by rw [e_eq0 (by omega)]; exact hf)]
    unfold xX8_readPlan_51
    rw [e_add, stop]
    unfold xX8_readPlan_58
    rw [h5, e_oli2, if_neg (by rw [e_eq0 (by omega)]; exact hf)]
theorem pl_both {T : Nat → Nat} {n gc gr : Nat} : ∀ (m : Nat) (Mc Mr : j_M) (p s : Nat) (Q : Nat → Nat) (k v pl nx l2 : Nat), n - p ≤ m → PLS Mc Mr T n p s Q → LEX T n p k v pl nx → RT Mr T n 1 k v pl nx → l2 ≤ p → PLO Mc Mr (xX8_readPlan_8 (gc + m + 2) (nI 1) (nI l2) Mc) (xX12_readsPlan_14 (gr + m + 1) Mr) := by
  intro m
  induction m with
  | zero =>
    intro Mc Mr p s Q k v pl nx l2 hm h hx hr hl
    have hb := LEX_b hx h.1.2.2.2.1
    have hk : k = 0 := by
      by_cases c : k = 0
      · exact c
      · have := hb.2.2.2.2.1 c
        have := hb.1
        have := hb.2.2.2.1
        omega
    subst hk
    obtain ⟨M1, t1, c1, e1, _⟩ := pl_tok h.1 hx hl
    obtain ⟨h1, h2, h3, h4, h5, h6, h7⟩ := h
    refine Or.inl ⟨M1, Mr, s, Q, ?_, h4, c1.2.2.1, c1.2.2.2.2, fun i hi => ?_, tok_f t1, ?_, h5, h7, RFR_r⟩
    · rw [e1 rfl]
      unfold xX8_readPlan_58
      rw [c1.2.2.1, e_oli2, if_pos (by decide), t1.2.2.2.2.2 7 (by omega), h3, e_oli2]
    · rw [t1.2.2.2.2.1 30 (by omega)]
      exact h6 i hi
    · rw [xX12_readsPlan_14.eq_2, hr.2.2.2.2.2.1, e_oli2]
      rfl
  | succ m ih =>
    intro Mc Mr p s Q k v pl nx l2 hm h hx hr hl
    obtain ⟨M1, t1, c1, e1, e2⟩ := pl_tok h.1 hx hl
    obtain ⟨h1, h2, h3, h4, h5, h6, h7⟩ := h
    by_cases k0 : k = 0
    · subst k0
      refine Or.inl ⟨M1, Mr, s, Q, ?_, h4, c1.2.2.1, c1.2.2.2.2, fun i hi => ?_, tok_f t1, ?_, h5, h7, RFR_r⟩
      · rw [e1 rfl]
        unfold xX8_readPlan_58
        rw [c1.2.2.1, e_oli2, if_pos (by decide), t1.2.2.2.2.2 7 (by omega), h3, e_oli2]
      · rw [t1.2.2.2.2.1 30 (by omega)]
        exact h6 i hi
      · rw [xX12_readsPlan_14.eq_2, hr.2.2.2.2.2.1, e_oli2]
        rfl
    · have hb := LEX_b hx h1.2.2.2.1
      have hv := hb.2.2.2.2.2.2.2.1
      have hv2 := hb.2.2.2.2.2.2.1
      have hlt := hb.2.2.2.2.1 k0
      have hk6 := hb.2.2.2.2.2.1
      have hp1 := hb.1
      have hp2 := hb.2.2.2.1
      clear hb
      obtain ⟨A, B, eA, lA, kB, hz⟩ := ln_both c1 (CST_f h2 (fun x hx => t1.2.2.2.2.1 x (by omega))) t1.2.1 k0 hk6 t1.2.2.2.1 hv hv2 t1.2.2.1 (by rw [t1.2.2.2.2.2 7 (by omega), h3]) h4 hr h5
      have fc : CFR Mc A := CFR_t (tok_f t1) (CFR_n lA)
      have e3 := e2 k0 (gc + m + 1) A eA
      rw [show gc + (m + 1) + 2 = (gc + m + 1) + 2 by omega, show gr + (m + 1) + 1 = (gr + m + 1) + 1 by omega]
      rcases hz with ⟨hs2, ⟨g, p2, k', v', pl', nx', q1, q2, q3, q4, q5, q6, q7, q8, q9⟩, q10⟩ | ⟨f, q, q1, q2, q3, q4, q5⟩
      · rw [e3.1 q3.2.2.1, q10]
        refine PLO_t fc (RFR_t (RFR_h kB) (RFR_w (Or.inl rfl))) (ih A (mw B 200 16 (nI (s + 1))) p2 (s + 1) (fun j => if j < 4 * s then Q j else g (j - 4 * s)) k' v' pl' nx' (l2 + 1) (by omega) ⟨q3, CST_f h2 (fun x hx => fc.1 x (by omega) (by omega) (by omega) (by omega)), q4, by omega, mw_at (by omega), fun i hi => ?_, fun j hj => ?_⟩ q5 (RT_d q6 (Or.inl rfl)) (by omega))
        · by_cases ci : i = s
          · subst ci
            have e : (fun j => if 4 * i + j < 4 * i then Q (4 * i + j) else g (4 * i + j - 4 * i)) = g := by
              funext j
              rw [if_neg (by omega), show 4 * i + j - 4 * i = j by omega]
            simp only [e]
            exact ⟨q2, q9⟩
          · have hi2 : i < s := by omega
            obtain ⟨o1, o2⟩ := h6 i hi2
            have e0 : ∀ j, j < 4 → (if 4 * i + j < 4 * s then Q (4 * i + j) else g (4 * i + j - 4 * s)) = Q (4 * i + j) := fun j hj => by rw [if_pos (by omega)]
            constructor
            · unfold POK at o1 ⊢
              simp only [e0 0 (by omega), e0 1 (by omega), e0 2 (by omega), e0 3 (by omega)]
              exact o1
            · rw [lA.2.2 i ci, t1.2.2.2.2.1 30 (by omega), o2]
              unfold pcv
              simp only [e0 0 (by omega), e0 1 (by omega), e0 2 (by omega), e0 3 (by omega)]
        · rw [mw_oth (by omega)]
          by_cases cj : j < 4 * s
          · simp only [if_pos cj]
            rw [q8 j cj, h7 j cj]
          · simp only [if_neg cj]
            rw [← q7 (j - 4 * s) (by omega), show 4 * s + (j - 4 * s) = j by omega]
      · rw [e3.2 f q1 q2 q3.1, q5]
        exact Or.inr ⟨A, B, f, q, rfl, q3, fc, rfl, q4, RFR_h kB⟩
