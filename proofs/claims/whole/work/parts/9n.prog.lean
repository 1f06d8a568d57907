/-- the end of the text: both -/
theorem rp_end {Mc Mr : j_M} {T : Nat → Nat} {n p d s v pl nx l2 : Nat} {o st tm : Nat → Nat} {L : List Nat} (h : PST Mc Mr T n p d s o st tm L) (hx : LEX T n p 0 v pl nx) (hr : RT Mr T n 0 0 v pl nx) (hl : l2 ≤ p) (g g' : Nat) : POUT Mc Mr n (xX8_readProgram_8 (g + 2) (nI 1) (nI l2) Mc) (xX12_readsAll_19 (g' + 1) Mr) := by
  obtain ⟨h1, h2, h3, h4, h5, h6, h7, h8, h9, h10, h11, h12⟩ := h
  have hn := h1.1.1
  have hpn := h1.2.2.2.1
  have hpl : pl = n := (LEX_b hx h1.2.2.2.1).2.2.2.2.2.2.2.2 rfl
  subst hpl
  obtain ⟨M1, t1, c1, e1⟩ := rp_tok (l2 := l2) h1 hx h3 h4 hl
  have t28 : ∀ j, j < 9 → M1 28 j = Mc 28 j := t1.2.2.2.2.2
  have tx : ∀ x, x ≠ 28 → M1 x = Mc x := t1.2.2.2.2.1
  have sb := STK_b h12
  have e2 : xX8_readProgram_8 (g + 2) (nI 1) (nI l2) Mc = xX8_readProgram_132 M1 := by
    rw [show g + 2 = (g + 1) + 1 from rfl, e1, if_pos rfl]
    unfold xX8_readProgram_109 xX8_readProgram_124 xX8_readProgram_125
    rw [if_pos (by decide), e_add, xX8_readProgram_8.eq_2]
    by_cases c : nI 400 < nI (l2 + 1)
    · rw [if_pos c]
    · rw [if_neg c, if_pos (by decide)]
  rw [e2, ra_19 hr (fun q => by omega) h8 h4]
  unfold xX8_readProgram_132
  rw [c1.2.2.1, e_oli2, if_pos (by decide), t28 8 (by omega), h3, e_oli2]
  simp (disch := omega) only [e_le0]
  by_cases c : d = 0
  · rw [if_pos (by omega), if_pos ⟨trivial, c⟩]
    subst c
    exact Or.inl ⟨M1, Mr, s, L, rfl, c1.2.2.1, c1.2.2.2.2, t1.2.2.1, by rw [t28 7 (by omega), h5], by omega, fun j a b => by rw [tx 30 (by omega)]; exact h7 j a b, tok_f t1, rfl, h12, h9, by omega, RFR_r⟩
  · obtain ⟨M2, e3, c2, k2, _⟩ := x_refuse (f := 1) t1.2.2.1
    obtain ⟨B, eB, rB, gB⟩ := ra_bad (M := Mr) hr.2.2.2.2.2.2.1
    rw [if_neg (by omega), e3, e_obv2, if_neg (fun q => c q.2), ra_33 hr (fun q => by omega) h9 (fun q => absurd rfl q), if_neg (by omega), if_neg (by omega), eB]
    unfold xX8_readProgram_176
    rw [c2.1, e_oli2, if_neg (by decide)]
    exact Or.inr ⟨M2, B, 1, pl, rfl, c2, by decide, by decide, CFR_t (tok_f t1) (CFR_k k2), rfl, rB, RFR_h (HK_g gB)⟩
/-- a token that can't stand there: both -/
theorem rp_bad {Mc Mr : j_M} {T : Nat → Nat} {n p d s k v pl nx l2 : Nat} {o st tm : Nat → Nat} {L : List Nat} (h : PST Mc Mr T n p d s o st tm L) (hx : LEX T n p k v pl nx) (hr : RT Mr T n 0 k v pl nx) (hl : l2 ≤ p) (hk0 : k ≠ 0) (hk5 : k = 5 → d = 0) (hk1 : k = 1 → 5 < v) (g g' : Nat) : POUT Mc Mr n (xX8_readProgram_8 (g + 2) (nI 1) (nI l2) Mc) (xX12_readsAll_19 (g' + 1) Mr) := by
  obtain ⟨h1, h2, h3, h4, h5, h6, h7, h8, h9, h10, h11, h12⟩ := h
  have hn := h1.1.1
  have hpn := h1.2.2.2.1
  have hb := LEX_b hx h1.2.2.2.1
  have hv := hb.2.2.2.2.2.2.2.1
  have hlt := hb.2.2.2.2.1 hk0
  have hk6 := hb.2.2.2.2.2.1
  have hp1 := hb.1
  have hp2 := hb.2.2.2.1
  clear hb
  obtain ⟨M1, t1, c1, e1⟩ := rp_tok (l2 := l2) h1 hx h3 h4 hl
  obtain ⟨M2, e2, c2, k2⟩ := rp_104 (g := g) (l2 := l2) t1.2.2.1 (by omega)
  have e3 : xX8_readProgram_8 (g + 2) (nI 1) (nI l2) Mc = some (-1, M2) := by
    have e4 := rp_57 (M := M1) (K := xX8_readProgram_8 (g + 1)) (l2 := l2) (v := v) t1.2.1 hk6 (fun q => t1.2.2.2.1 (Or.inl q)) (fun q => (hv q).2)
    rw [if_neg (fun q => by have := hk1 q.1; omega), if_neg (fun q => by have := hk1 q.1; omega), e2] at e4
    rw [show g + 2 = (g + 1) + 1 from rfl, e1, if_neg hk0, e4]
    by_cases c5 : k = 5
    · rw [if_pos c5, if_pos (hk5 c5)]
    · rw [if_neg c5]
  rw [e3, ra_19 hr (fun q => (hv q).2) h8 h4, if_neg (fun q => hk0 q.1), ra_33 hr hv h9 (fun _ => by omega)]
  by_cases c5 : k = 5
  · obtain ⟨B, eB, rB, gB⟩ := ra_bad (M := Mr) hr.2.2.2.2.2.2.1
    have ec : xX12_closes Mr = some (nI 0, B) := by
      unfold xX12_closes
      rw [h8, hk5 c5, e_oli2, if_pos (by decide), eB]
    rw [if_pos c5, ec, e_obi2, if_pos (by decide)]
    exact Or.inr ⟨M2, B, 1, pl, rfl, c2, by decide, by decide, CFR_t (tok_f t1) (CFR_k k2), rfl, rB, RFR_h (HK_g gB)⟩
  · obtain ⟨B, eB, rB, gB⟩ := ra_bad (M := Mr) hr.2.2.2.2.2.2.1
    rw [if_neg c5, if_neg (fun q => by have := hk1 q.1; omega), eB]
    exact Or.inr ⟨M2, B, 1, pl, rfl, c2, by decide, by decide, CFR_t (tok_f t1) (CFR_k k2), rfl, rB, RFR_h (HK_g gB)⟩
theorem rp_both {T : Nat → Nat} {n gc gr : Nat} : ∀ (m : Nat) (Mc Mr : j_M) (p d s : Nat) (o st tm : Nat → Nat) (L : List Nat) (k v pl nx l2 : Nat), n - p ≤ m → PST Mc Mr T n p d s o st tm L → LEX T n p k v pl nx → RT Mr T n 0 k v pl nx → l2 ≤ p → POUT Mc Mr n (xX8_readProgram_8 (gc + m + 2) (nI 1) (nI l2) Mc) (xX12_readsAll_19 (gr + m + 1) Mr) := by
  intro m
  induction m with
  | zero =>
    intro Mc Mr p d s o st tm L k v pl nx l2 hm h hx hr hl
    have hb := LEX_b hx h.1.2.2.2.1
    have hk : k = 0 := by
      by_cases c : k = 0
      · exact c
      · have := hb.2.2.2.2.1 c
        have := hb.1
        have := hb.2.2.2.1
        omega
    subst hk
    exact rp_end h hx hr hl gc gr
  | succ m ih =>
    intro Mc Mr p d s o st tm L k v pl nx l2 hm h hx hr hl
    by_cases k0 : k = 0
    · subst k0
      exact rp_end h hx hr hl (gc + (m + 1)) (gr + (m + 1))
    · have hb := LEX_b hx h.1.2.2.2.1
      have hv := hb.2.2.2.2.2.2.2.1
      have hlt := hb.2.2.2.2.1 k0
      have hk6 := hb.2.2.2.2.2.1
      have hp1 := hb.1
      have hp2 := hb.2.2.2.1
      clear hb
      have hn := h.1.1.1
      have hsp : s ≤ p := h.2.2.2.2.2.2.2.2.2.1
      have h8 : Mr 200 17 = nI d := h.2.2.2.2.2.2.2.1
      have h9 : Mr 200 16 = nI s := h.2.2.2.2.2.2.2.2.1
      have h3 : Mc 28 8 = nI d := h.2.2.1
      have h4 : d ≤ 3 := h.2.2.2.1
      obtain ⟨M1, t1, c1, e1⟩ := rp_tok (l2 := l2) h.1 hx h3 h4 hl
      have eR := ra_19 hr (fun q => (hv q).2) h8 h4 (gr + (m + 1))
      rw [if_neg (fun q => k0 q.1), ra_33 hr hv h9 (fun _ => by omega)] at eR
      have eC := e1 (gc + m + 2)
      rw [if_neg k0] at eC
      by_cases k5 : k = 5
      · by_cases d0 : d = 0
        · exact rp_bad h hx hr hl k0 (fun _ => d0) (fun q => by omega) (gc + (m + 1)) (gr + (m + 1))
        · obtain ⟨d', rfl⟩ : ∃ d', d = d' + 1 := ⟨d - 1, by omega⟩
          subst k5
          obtain ⟨M5, Mr', L', k', v', pl', nx', g1, g2, g3, g4, g5, g6, g7⟩ := rp_close h hx hr t1 c1 (by omega)
          rw [show gc + (m + 1) + 2 = (gc + m + 2) + 1 by omega, eC, if_pos rfl, if_neg d0, g1, e_obv2, rp_on g3.1.2.2.1, eR, if_pos rfl, g2, e_obi2, if_neg (by decide)]
          exact POUT_t g6 g7 (ih M5 Mr' nx d' s o st tm L' k' v' pl' nx' (l2 + 1) (by omega) g3 g4 g5 (by omega))
      · rw [if_neg k5] at eC eR
        have e4 := rp_57 (M := M1) (K := xX8_readProgram_8 (gc + m + 2)) (l2 := l2) (v := v) t1.2.1 hk6 (fun q => t1.2.2.2.1 (Or.inl q)) (fun q => (hv q).2)
        by_cases k1 : k = 1
        · subst k1
          by_cases v5 : v = 5
          · subst v5
            obtain ⟨M5, z, Mr', g1, g2, g3, g4, g5⟩ := rp_open h hr t1 c1 (by omega) (by omega)
            rw [show gc + (m + 1) + 2 = (gc + m + 2) + 1 by omega, eC, e4, if_pos ⟨rfl, rfl⟩, g1, e_obv2, eR, if_pos ⟨rfl, by omega⟩, g2, e_obi2]
            rcases g5 with ⟨rfl, y1, y2, o', st', tm', p2, k', v', pl', nx', y3, y4, y5, y6⟩ | ⟨rfl, f, q, y1, y2, y3, y4⟩
            · rw [rp_on y1, if_neg (by decide), y2, e_oli2, e_oml2, e_add]
              exact POUT_t g3 (RFR_t g4 (RFR_w (Or.inl rfl))) (ih M5 _ p2 (d + 1) (s + 1) o' st' tm' L k' v' pl' nx' (l2 + 1) (by omega) y4 y5 y6 (by omega))
            · rw [show gc + m + 2 = (gc + m + 1) + 1 from rfl, rp_fault y3.1 y1 y2 (by omega), if_pos (by decide)]
              exact Or.inr ⟨M5, Mr', f, q, rfl, y3, y1, y2, g3, rfl, y4, g4⟩
          · by_cases v6 : v < 5
            · obtain ⟨M5, z, Mr', g1, g2, g3, g4, g5⟩ := rp_act h hr t1 c1 (by omega) (by omega) v6 (hv rfl).1
              rw [show gc + (m + 1) + 2 = (gc + m + 2) + 1 by omega, eC, e4, if_neg (fun q => v5 q.2), if_pos ⟨rfl, v6⟩, g1, e_obv2, eR, if_pos ⟨rfl, by omega⟩, g2, e_obi2]
              rcases g5 with ⟨rfl, y1, y2, L', p2, k', v', pl', nx', y3, y4, y5, y6⟩ | ⟨rfl, f, q, y1, y2, y3, y4⟩
              · rw [rp_on y1, if_neg (by decide), y2, e_oli2, e_oml2, e_add]
                exact POUT_t g3 (RFR_t g4 (RFR_w (Or.inl rfl))) (ih M5 _ p2 d (s + 1) o st tm L' k' v' pl' nx' (l2 + 1) (by omega) y4 y5 y6 (by omega))
              · rw [show gc + m + 2 = (gc + m + 1) + 1 from rfl, rp_fault y3.1 y1 y2 (by omega), if_pos (by decide)]
                exact Or.inr ⟨M5, Mr', f, q, rfl, y3, y1, y2, g3, rfl, y4, g4⟩
            · exact rp_bad h hx hr hl k0 (fun q => absurd q k5) (fun _ => by omega) (gc + (m + 1)) (gr + (m + 1))
        · exact rp_bad h hx hr hl k0 (fun q => absurd q k5) (fun q => absurd q k1) (gc + (m + 1)) (gr + (m + 1))
