/-! ===== a program read: both ===== -/
def PST (Mc Mr : j_M) (T : Nat → Nat) (n p d s : Nat) (o st tm : Nat → Nat) (L : List Nat) : Prop :=
  CS Mc T n p ∧ CST Mc ∧ Mc 28 8 = nI d ∧ d ≤ 3 ∧ Mc 28 7 = nI L.length ∧ (∀ i, i < d → Mc 31 i = nI (st i) ∧ Mc 32 i = nI (tm i)) ∧ (∀ j, j < L.length → j < 200 → Mc 30 j = nI (L.getD j 0)) ∧ Mr 200 17 = nI d ∧ Mr 200 16 = nI s ∧ s ≤ p ∧ (∀ i, i < d → Mr 207 i = nI (o i)) ∧ STK (Mr 206) o st tm d s L
def POUT (Mc Mr : j_M) (n : Nat) (X Y : Option (Int32 × j_M)) : Prop :=
  (∃ Mc' Mr' s L, X = xX8_readProgram_154 Mc' ∧ Mc' 28 5 = nI 0 ∧ Mc' 28 6 = -1 ∧ Mc' 28 12 = nI n ∧ Mc' 28 7 = nI L.length ∧ L.length < 1000000 ∧ (∀ j, j < L.length → j < 200 → Mc' 30 j = nI (L.getD j 0)) ∧ CFR Mc Mc' ∧ Y = some (nI 1, Mr') ∧ SEG (Mr' 206) 3 0 s L ∧ Mr' 200 16 = nI s ∧ s ≤ 400 ∧ RFR Mr Mr') ∨
  (∃ Mc' Mr' f q, X = some (-1, Mc') ∧ CF Mc' f q ∧ f ≠ 0 ∧ f < 10 ∧ CFR Mc Mc' ∧ Y = some (nI 0, Mr') ∧ RF Mr' f q ∧ RFR Mr Mr')
theorem POUT_t {Mc Mr Mc1 Mr1 : j_M} {n : Nat} {X Y : Option (Int32 × j_M)} (hc : CFR Mc Mc1) (hr : RFR Mr Mr1) (h : POUT Mc1 Mr1 n X Y) : POUT Mc Mr n X Y := by
  rcases h with ⟨A, B, s, L, a1, a2, a3, a4, a5, a6, a6', a7, a8, a9, b1, b2, b3⟩ | ⟨A, B, f, q, a1, a2, a3, a4, a5, a6, a7, a8⟩
  · exact Or.inl ⟨A, B, s, L, a1, a2, a3, a4, a5, a6, a6', CFR_t hc a7, a8, a9, b1, b2, RFR_t hr b3⟩
  · exact Or.inr ⟨A, B, f, q, a1, a2, a3, a4, CFR_t hc a5, a6, a7, RFR_t hr a8⟩
theorem CST_f {M M' : j_M} (h : CST M) (hf : ∀ x, 300 ≤ x → M' x = M x) : CST M' := fun j hj => by
  rw [hf 300 (by omega), hf 301 (by omega), hf 302 (by omega)]
  exact h j hj
theorem tok_f {Mc M1 : j_M} {k v pl nx : Nat} (t : TOKC Mc M1 k v pl nx) : CFR Mc M1 := ⟨fun x a _ _ _ => t.2.2.2.2.1 x a, fun j a => t.2.2.2.2.2 j (by omega)⟩
/-- the next item, a loop's end: both -/
theorem rp_close {Mc Mr M1 : j_M} {T : Nat → Nat} {n p d s v pl nx : Nat} {o st tm : Nat → Nat} {L : List Nat} (h : PST Mc Mr T n p (d + 1) s o st tm L) (hx : LEX T n p 5 v pl nx) (hr : RT Mr T n 0 5 v pl nx) (t1 : TOKC Mc M1 5 v pl nx) (c1 : CS M1 T n nx) (hnx : p < nx) : ∃ M5 Mr' L' k' v' pl' nx', xX8_closeLoop M1 = some M5 ∧ xX12_closes Mr = some (nI 1, Mr') ∧ PST M5 Mr' T n nx d s o st tm L' ∧ LEX T n nx k' v' pl' nx' ∧ RT Mr' T n 0 k' v' pl' nx' ∧ CFR Mc M5 ∧ RFR Mr Mr' := by
  obtain ⟨h1, h2, h3, h4, h5, h6, h7, h8, h9, h10, h11, h12⟩ := h
  obtain ⟨k', v', pl', nx', hx'⟩ := LEX_ex T n nx
  have hn := h1.1.1
  have hn2 := c1.2.2.2.1
  have ho := h11 d (by omega)
  have hlt : o d < s := by
    have q := h12
    obtain ⟨_, A, B, _, _, _, _, _, _, h7', _⟩ := q
    have := (SEG_b h7').1
    omega
  obtain ⟨Mr', e2, r2, g2⟩ := r_close hr h8 (by omega) ho (by omega) h9 hx'
  have g6 : Mr' 206 = mw Mr 206 (4 * o d + 3) (nI s) 206 := by
    rw [g2.1 206 (by omega)]
    funext j
    by_cases q : j = 4 * o d + 3
    · rw [q, mw_at (by omega), mw_at (by omega)]
    · rw [mw_ne q, mw_ne q, mw_oth (by omega)]
  obtain ⟨_, A, B, rfl, s1, s2, s3, s4⟩ := STK_close (G := Mr' 206) h12 (fun j q => by rw [g6, mw_ne q]) (by rw [g6, mw_at (by omega)])
  have sb := STK_b s4
  rw [List.length_append, rep_len] at sb
  have hAB : (A ++ B).length = A.length + B.length := List.length_append
  have sb2 : A.length + B.length * tm d ≤ 729 * s := by rw [Nat.mul_comm B.length]; exact sb
  have t28 : ∀ j, j < 9 → M1 28 j = Mc 28 j := t1.2.2.2.2.2
  have tx : ∀ x, x ≠ 28 → M1 x = Mc x := t1.2.2.2.2.1
  obtain ⟨M5, e5, f1, f2, f3, f4, f5, f6⟩ := x_closeL (M := M1) (d := d) (c := (A ++ B).length) (st := st d) (tm := tm d) (E := A.length + B.length * tm d) (by rw [t28 8 (by omega), h3]) (by omega) (by rw [t28 7 (by omega), h5]) (by rw [tx 31 (by omega)]; exact (h6 d (by omega)).1) (by rw [tx 32 (by omega)]; exact (h6 d (by omega)).2) (by omega) s2 (by rw [s1, hAB, show A.length + B.length - A.length = B.length by omega]) (by omega)
  refine ⟨M5, Mr', A ++ rep (tm d) B, k', v', pl', nx', e5, e2, ⟨?_, ?_, f2, by omega, ?_, fun i hi => ?_, ?_, ?_, ?_, by omega, fun i hi => ?_, s4⟩, hx', r2, ?_, ?_⟩
  · exact ⟨⟨c1.1.1, by rw [f4 4 (by omega) (by omega)]; exact c1.1.2.1, fun i hi => by rw [f3 29 (by omega) (by omega)]; exact c1.1.2.2 i hi⟩, by rw [f4 9 (by omega) (by omega)]; exact c1.2.1, by rw [f4 5 (by omega) (by omega)]; exact c1.2.2.1, c1.2.2.2.1, by rw [f4 6 (by omega) (by omega)]; exact c1.2.2.2.2⟩
  · exact CST_f h2 (fun x hx => by rw [f3 x (by omega) (by omega), tx x (by omega)])
  · rw [f1, List.length_append, rep_len, Nat.mul_comm]
  · rw [f3 31 (by omega) (by omega), f3 32 (by omega) (by omega), tx 31 (by omega), tx 32 (by omega)]
    exact h6 i (by omega)
  · refine rep_cls s2 (fun j a b => ?_) (fun j a b c => ?_)
    · rw [f5 j a, tx 30 (by omega)]
      exact h7 j a b
    · rw [f6 j (by omega) b c, s1, hAB, show A.length + B.length - A.length = B.length by omega]
  · rw [g2.2 17 (by omega), mw_oth (by omega), mw_at (by omega)]
  · rw [g2.2 16 (by omega), mw_oth (by omega), mw_ne (by omega), h9]
  · rw [g2.1 207 (by omega), mw_oth (by omega), mw_oth (by omega)]
    exact h11 i (by omega)
  · exact ⟨fun x a b c d => by rw [f3 x a b, tx x a], fun j a => by rw [f4 j (by omega) (by omega), t28 j (by omega)]⟩
  · exact ⟨fun x a b c => by rw [g2.1 x a, mw_oth b, mw_oth a], fun j a => by rw [g2.2 j (by omega), mw_oth (by omega), mw_ne (by omega)]⟩
/-- the next item, an act: both -/
theorem rp_act {Mc Mr M1 : j_M} {T : Nat → Nat} {n p d s v pl nx : Nat} {o st tm : Nat → Nat} {L : List Nat} (h : PST Mc Mr T n p d s o st tm L) (hr : RT Mr T n 0 1 v pl nx) (t1 : TOKC Mc M1 1 v pl nx) (c1 : CS M1 T n nx) (hnx : p < nx) (hs2 : s < 400) (hv : v < 5) (hv1 : 1 ≤ v) : ∃ M5 z Mr', xX8_readAct (nI 0) M1 = some M5 ∧ xX12_oneOf (mw Mr 206 (4 * s + 2) (nI 0)) = some (nI z, Mr') ∧ CFR Mc M5 ∧ RFR Mr Mr' ∧ ((z = 1 ∧ M5 28 5 = nI 0 ∧ Mr' 200 16 = nI s ∧ ∃ L' p2 k' v' pl' nx', nx < p2 ∧ PST M5 (mw Mr' 200 16 (nI (s + 1))) T n p2 d (s + 1) o st tm L' ∧ LEX T n p2 k' v' pl' nx' ∧ RT (mw Mr' 200 16 (nI (s + 1))) T n 0 k' v' pl' nx') ∨ (z = 0 ∧ ∃ f q, f ≠ 0 ∧ f < 10 ∧ CF M5 f q ∧ RF Mr' f q)) := by
  obtain ⟨h1, h2, h3, h4, h5, h6, h7, h8, h9, h10, h11, h12⟩ := h
  have t28 : ∀ j, j < 9 → M1 28 j = Mc 28 j := t1.2.2.2.2.2
  have tx : ∀ x, x ≠ 28 → M1 x = Mc x := t1.2.2.2.2.1
  have hn := h1.1.1
  have hn2 := c1.2.2.2.1
  have sb := STK_b h12
  obtain ⟨A, z, B, eA, kA, eB, kB, hz⟩ := act_both (c := L.length) (s := s) c1 (CST_f h2 (fun x hx => tx x (by omega))) (t1.2.2.2.1 (Or.inl rfl)) hv hv1 (by rw [t28 7 (by omega), h5]) (by omega) (RT_w (i := 4 * s + 2) (y := nI 0) hr) (by rw [mw_oth (by omega), h9]) hs2 (mw_at (by omega))
  have fc : CFR Mc A := CFR_t (tok_f t1) (CFR_a kA)
  have fr : RFR Mr B := RFR_t RFR_6 (RFR_h kB)
  refine ⟨A, z, B, eA, eB, fc, fr, ?_⟩
  rcases hz with ⟨z1, a, b, p2, k', v', pl', nx', q1, q2, q3, q4, q5, q6, q7⟩ | ⟨z1, f, q, q1, q2, q3, q4⟩
  · have b16 : B 200 16 = nI s := by rw [kB.2 16 (by omega), mw_oth (by omega), h9]
    refine Or.inl ⟨z1, q2.2.2.1, b16, L ++ [v + 16 * a + 2048 * b], p2, k', v', pl', nx', q1, ⟨q2, ?_, ?_, h4, ?_, fun i hi => ?_, fun j a1 a2 => ?_, ?_, mw_at (by omega), by omega, fun i hi => ?_, ?_⟩, q3, RT_d q4 (Or.inl rfl)⟩
    · exact CST_f h2 (fun x hx => fc.1 x (by omega) (by omega) (by omega) (by omega))
    · rw [kA.2.2.1 8 (by omega) (by omega) (by omega) (by omega), t28 8 (by omega), h3]
    · rw [kA.1, List.length_append]
      rfl
    · rw [kA.2.1 31 (by omega) (by omega), kA.2.1 32 (by omega) (by omega), tx 31 (by omega), tx 32 (by omega)]
      exact h6 i hi
    · rw [List.length_append] at a1
      have a3 : j < L.length + 1 := a1
      by_cases c : j = L.length
      · subst c
        rw [q7 a2, gd_r (Nat.le_refl _), Nat.sub_self]
        rfl
      · rw [kA.2.2.2 j c, tx 30 (by omega), gd_l (by omega)]
        exact h7 j (by omega) a2
    · rw [mw_ne (by omega), kB.2 17 (by omega), mw_oth (by omega), h8]
    · rw [mw_oth (by omega), kB.1 207 (by omega) (by omega), mw_oth (by omega)]
      exact h11 i hi
    · rw [mw_oth (by omega)]
      obtain ⟨w1, w2, w3, w4⟩ := q5
      have q6' : v - 1 ≤ 3 ∧ a ≤ 9 ∧ (v - 1 ≤ 2 → a < 8) ∧ b < 10000 := q6
      exact STK_act (STK_f h12 (fun j hj => by rw [w4 j (by omega), mw_ne (by omega)]) (fun _ _ => ⟨rfl, rfl, rfl⟩)) ⟨w1, w2, w3, hv1, hv, by omega, by omega, fun q => by omega⟩
  · exact Or.inr ⟨z1, f, q, q1, q2, q3, q4⟩
/-- the next item, a loop's begin: both -/
theorem rp_open {Mc Mr M1 : j_M} {T : Nat → Nat} {n p d s pl nx : Nat} {o st tm : Nat → Nat} {L : List Nat} (h : PST Mc Mr T n p d s o st tm L) (hr : RT Mr T n 0 1 5 pl nx) (t1 : TOKC Mc M1 1 5 pl nx) (c1 : CS M1 T n nx) (hnx : p < nx) (hs2 : s < 400) : ∃ M5 z Mr', xX8_openLoop M1 = some M5 ∧ xX12_oneOf (mw Mr 206 (4 * s + 2) (nI 0)) = some (nI z, Mr') ∧ CFR Mc M5 ∧ RFR Mr Mr' ∧ ((z = 1 ∧ M5 28 5 = nI 0 ∧ Mr' 200 16 = nI s ∧ ∃ o' st' tm' p2 k' v' pl' nx', nx < p2 ∧ PST M5 (mw Mr' 200 16 (nI (s + 1))) T n p2 (d + 1) (s + 1) o' st' tm' L ∧ LEX T n p2 k' v' pl' nx' ∧ RT (mw Mr' 200 16 (nI (s + 1))) T n 0 k' v' pl' nx') ∨ (z = 0 ∧ ∃ f q, f ≠ 0 ∧ f < 10 ∧ CF M5 f q ∧ RF Mr' f q)) := by
  obtain ⟨h1, h2, h3, h4, h5, h6, h7, h8, h9, h10, h11, h12⟩ := h
  have t28 : ∀ j, j < 9 → M1 28 j = Mc 28 j := t1.2.2.2.2.2
  have tx : ∀ x, x ≠ 28 → M1 x = Mc x := t1.2.2.2.2.1
  have hn := h1.1.1
  have hn2 := c1.2.2.2.1
  have m8 : M1 28 8 = nI d := by rw [t28 8 (by omega), h3]
  by_cases hd : d < 3
  · obtain ⟨A, z, B, eA, kA, a31, eB, hz⟩ := open_both (c := L.length) (s := s) c1 m8 hd (by rw [t28 7 (by omega), h5]) (RT_w (i := 4 * s + 2) (y := nI 0) hr) (by rw [mw_oth (by omega), h8]) (by rw [mw_oth (by omega), h9]) hs2
    have fc : CFR Mc A := CFR_t (tok_f t1) (CFR_l kA)
    refine ⟨A, z, B, eA, eB, fc, ?_⟩
    rcases hz with ⟨z1, t, p2, k', v', pl', nx', M6, q1, q2, q3, q4, q5, q6, rfl, r6, k6, w1, w2, w3⟩ | ⟨z1, k6, f, q, q1, q2, q3, q4⟩
    · have fr6 : RFR Mr M6 := RFR_t RFR_6 (RFR_h k6)
      have fr : RFR Mr (mw (mw M6 207 d (nI s)) 200 17 (nI (d + 1))) := RFR_t fr6 (RFR_t RFR_7 (RFR_w (Or.inr rfl)))
      refine ⟨fr, Or.inl ⟨z1, q4.2.2.1, ?_, (fun i => if i = d then s else o i), (fun i => if i = d then L.length else st i), (fun i => if i = d then t else tm i), p2, k', v', pl', nx', q1, ⟨q4, ?_, kA.1, by omega, ?_, fun i hi => ?_, fun j a1 a2 => ?_, ?_, mw_at (by omega), by omega, fun i hi => ?_, ?_⟩, q6, ?_⟩⟩
      · rw [mw_ne (by omega), mw_oth (by omega), k6.2 16 (by omega), mw_oth (by omega), h9]
      · exact CST_f h2 (fun x hx => fc.1 x (by omega) (by omega) (by omega) (by omega))
      · rw [kA.2.2.1 7 (by omega) (by omega) (by omega), t28 7 (by omega), h5]
      · by_cases c : i = d
        · simp only [if_pos c]
          rw [c]
          exact ⟨a31, q5⟩
        · simp only [if_neg c]
          rw [(kA.2.2.2 i c).1, (kA.2.2.2 i c).2, tx 31 (by omega), tx 32 (by omega)]
          exact h6 i (by omega)
      · rw [kA.2.1 30 (by omega) (by omega) (by omega), tx 30 (by omega)]
        exact h7 j a1 a2
      · rw [mw_ne (by omega), mw_at (by omega)]
      · rw [mw_oth (by omega), mw_oth (by omega)]
        by_cases c : i = d
        · simp only [if_pos c]
          rw [c, mw_at (by omega)]
        · simp only [if_neg c]
          rw [mw_ne c, k6.1 207 (by omega) (by omega), mw_oth (by omega)]
          exact h11 i (by omega)
      · rw [mw_oth (by omega), mw_oth (by omega), mw_oth (by omega)]
        refine STK_open (STK_f h12 (fun j hj => by rw [w3 j (by omega), mw_ne (by omega)]) (fun i hi => ?_)) hd ?_ w1 ?_ ?_ ?_ ?_
        · simp only [if_neg (show ¬ i = d by omega)]
          exact ⟨trivial, trivial, trivial⟩
        · simp only [if_true]
        · simp only [if_true]
          exact w2
        · simp only [if_true]
          exact q2
        · simp only [if_true]
          exact q3
        · simp only [if_true]
      · refine RT_d (RT_d ?_ (Or.inr rfl)) (Or.inl rfl)
        obtain ⟨⟨a1, a2, a3⟩, y2, y3, y4, y5, y6, y7, y8⟩ := r6
        refine ⟨⟨a1, ?_, fun j hj => ?_⟩, ?_, y3, y4, ?_, ?_, ?_, fun q => ?_⟩
        · rw [mw_oth (by omega)]; exact a2
        · rw [mw_oth (by omega)]; exact a3 j hj
        · rw [mw_oth (by omega)]; exact y2
        · rw [mw_oth (by omega)]; exact y5
        · rw [mw_oth (by omega)]; exact y6
        · rw [mw_oth (by omega)]; exact y7
        · rw [mw_oth (by omega)]; exact y8 q
    · exact ⟨RFR_t RFR_6 (RFR_h k6), Or.inr ⟨z1, f, q, q1, q2, q3, q4⟩⟩
  · have hd3 : d = 3 := by omega
    obtain ⟨A, eA, cA, kA, _⟩ := x_refuse (f := 3) t1.2.2.1
    have r1 : RT (mw Mr 206 (4 * s + 2) (nI 0)) T n 0 1 5 pl nx := RT_w hr
    obtain ⟨B, eB, rB, gB⟩ := r_bad (f := 3) r1.2.2.2.2.2.2.1
    refine ⟨A, 0, B, ?_, ?_, CFR_t (tok_f t1) (CFR_k kA), RFR_t RFR_6 (RFR_h (HK_g gB)), Or.inr ⟨rfl, 3, pl, by decide, by decide, cA, rB⟩⟩
    · unfold xX8_openLoop
      rw [m8, e_oli2, if_neg (by rw [e_lt (by omega) (by omega)]; omega), eA, e_obv2]
    · unfold xX12_oneOf xX12_opens
      rw [r1.2.2.2.2.2.1, e_oli2, if_pos (by decide), mw_oth (by omega), h8, hd3, e_oli2, if_pos rfl, eB, e_obi2, e_gz0, e_obi2, e_gz0]
