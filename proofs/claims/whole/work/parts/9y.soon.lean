/-! ===== soon ===== -/
set_option maxRecDepth 20000 in
theorem soon_both {N : j_M} {c k k' : Nat} (hc : c < 6) (hN : N 0 3 ≠ 0) : ∀ (m r : Nat) (S2 Sr : a_S) (Nr : j_M), r + m = 61 → ag ps S2 Sr → INV S2 z0 → INV Sr z0 → Sr 1 5 + m ≤ 10100 → S2 6961 0 + 4006 * m < 2147470000 → Sr 6961 0 + 4006 * m < 2147470000 → TRC S2 → ∃ v S2' x Sr', xX11_soon_38 (k + m + 1) (nI c) (nI r) (XS N 70 S2) = some (v, XS N 70 S2') ∧ xX12_soon_34 (k' + m + 1) (nI c) (-1) (nI r) (RS Nr Sr) = xX12_soon_76 v (RS (w4 Nr x) Sr') ∧ INV S2' z0 ∧ TRC S2' ∧ S2' 6961 0 ≤ S2 6961 0 + 4006 * m := by
  intro m
  induction m with
  | zero =>
    intro r S2 Sr Nr hr ha i2 ir t5 t2 t3 tr
    have : r = 61 := by omega
    subst this
    refine ⟨-1, S2, Nr 204, Sr, ?_, ?_, i2, tr, by omega⟩
    · rw [show k + 0 + 1 = k + 1 from rfl, xX11_soon_38.eq_2, if_pos (by decide)]
    · rw [show k' + 0 + 1 = k' + 1 from rfl, xX12_soon_34.eq_2, if_pos (by decide), w4_id]
  | succ m ih =>
    intro r S2 Sr Nr hr ha i2 ir t5 t2 t3 tr
    have e5 := ps_1 ha 5 (by omega)
    have g2 := g_n i2.1
    have gr := g_n ir.1
    obtain ⟨x, er⟩ := r_calm1 (N := Nr) ir (by omega) (by omega)
    have ex : xX1_calmRounds 70 (nI 1) (XS N 70 S2) = some (nI (a_cK 1 S2), XS N 70 (a_calm1 S2)) := x_calm (by omega) i2 (by omega) (by omega) (by omega)
    generalize a_cK 1 S2 = w at ex
    generalize a_cN 2000 Sr = w2 at er
    have c2 := INV_calm1 i2 (by omega)
    have cr := INV_calm1 ir (by omega)
    have ac := ag_calm1 ha
    have tt := TRC_calm1 tr i2 (by omega)
    have n2 := t_calm1 (S := S2) g2
    have nr := t_calm1 (S := Sr) gr
    have c5 := calm1_5 (S := Sr)
    generalize a_calm1 S2 = C2 at *
    generalize a_calm1 Sr = Cr at *
    have e6 := ps_e ac 292 c (by omega)
    have rg9 : Cr 292 c ≤ 8 := by
      have := (cr.1 292 c)
      unfold rg at this
      omega
    have st1 : xX11_soon_38 (k + (m + 1) + 1) (nI c) (nI r) (XS N 70 S2) = if Cr 292 c = 0 then some (nI r, XS N 70 C2) else xX11_soon_38 (k + m + 1) (nI c) (nI (r + 1)) (XS N 70 C2) := by
      have o1 : ∀ A : a_S, XS N 70 A 0 3 ≠ 0 := fun A => by rw [xs_o (by omega)]; exact hN
      have mb := msv_lt (c := c) c2.1
      rw [show k + (m + 1) + 1 = (k + m + 1) + 1 by omega, xX11_soon_38.eq_2, if_neg (by rw [e_lt (by omega) (by omega)]; omega)]
      unfold gn
      rw [if_neg (o1 _), ex, e_obi2, if_neg (o1 _), x_missOf hc, e_obi2, e_add]
      simp (disch := omega) only [e_eq0, msv_0 c2.2.2.2.2.2.2.2.1 hc, e6]
    have st2 : xX12_soon_34 (k' + (m + 1) + 1) (nI c) (-1) (nI r) (RS Nr Sr) = if Cr 292 c = 0 then xX12_soon_34 (k' + m + 1) (nI c) (nI r) (nI (r + 1)) (RS (w4 Nr x) Cr) else xX12_soon_34 (k' + m + 1) (nI c) (-1) (nI (r + 1)) (RS (w4 Nr x) Cr) := by
      rw [show k' + (m + 1) + 1 = (k' + m + 1) + 1 by omega, xX12_soon_34.eq_2, if_neg (by rw [e_lt (by omega) (by omega)]; omega), if_pos rfl, er, e_obi2, e_add, e_gd (by omega) (by omega), e_ix2 (by omega), sr_292 hc, e_oli2]
      unfold xX12_soon_69
      rw [f_om1 (by omega), e_add]
    rw [st1, st2]
    by_cases q : Cr 292 c = 0
    · rw [if_pos q, if_pos q]
      refine ⟨nI r, C2, x, Cr, rfl, ?_, c2, tt, by omega⟩
      rw [xX12_soon_34.eq_2]
      by_cases q2 : nI 60 < nI (r + 1)
      · rw [if_pos q2]
      · rw [if_neg q2, if_neg (nI_m1 (by omega))]
    · rw [if_neg q, if_neg q]
      obtain ⟨v, S2', x', Sr', a1, a2, a3, a4, a5⟩ := ih (r + 1) C2 Cr (w4 Nr x) (by omega) ac c2 cr (by omega) (by omega) (by omega) tt
      exact ⟨v, S2', x', Sr', a1, by rw [a2, w4_4], a3, a4, by omega⟩
/-- what thinking leaves alone -/
def SFR (M M' : j_M) : Prop := (∀ x, x ≠ 0 → x ≠ 201 → x ≠ 203 → x ≠ 204 → (x < 70 ∨ 90 ≤ x) → M' x = M x) ∧ (∀ j, j ≠ 3 → M' 0 j = M 0 j)
theorem SFR_r {M : j_M} : SFR M M := ⟨fun _ _ _ _ _ _ => rfl, fun _ _ => rfl⟩
theorem THK_le {M : j_M} {b b' : Nat} (h : THK M b) (hb : b ≤ b') : THK M b' := by
  rcases h with h | ⟨h1, D, ⟨a1, a2, a3, a4⟩, h3⟩
  · exact Or.inl h
  · exact Or.inr ⟨h1, D, ⟨a1, a2, a3, by omega⟩, h3⟩
set_option maxRecDepth 20000 in
theorem op_soon {M : j_M} {S : a_S} {b d : Nat} (a : Int32) (hr : REL M S) (ho : OKS S b) (ht : THK M d) (hd : d ≤ 1000000000) : ∃ v M1 M2 S', xX11_soon a M = some (v, M1) ∧ xX12_soon a M1 = some (v, M2) ∧ REL M2 S' ∧ OKS S' b ∧ THK M2 (d + 250000) ∧ SFR M M2 := by
  obtain ⟨r1, r2, r3⟩ := hr
  have hi := ho.1
  have hn := g_n hi.1
  have hn2 : 2 ≤ S 1 0 := hi.2.2.2.2.2.2.1.1
  have e1 : XS M 2 S = M := xs_self r2
  have e2 : RS M S = M := rs_self r1
  have h5 := ho.2.2.2.1
  have h9 := OKS_9 ho
  have hno : (¬ ∃ c, a = nI c ∧ c < S 1 0 ∧ S 292 c ≠ 0) → ∃ v, xX11_soon a M = some (v, M) ∧ xX12_soon a M = some (v, M) := by
    intro hx
    unfold xX11_soon xX12_soon
    rcases i_cases a with ⟨c, hc, rfl⟩ | ha
    · have x1 := x_isCpu (N := M) (t := 2) (c := c) hi.1 hc
      have x2 := r_isCpu (N := M) (c := c) hi.1 (by omega) hc
      rw [e1] at x1
      rw [e2] at x2
      rw [x1, e_obi2, x2, e_obi2]
      by_cases q : c < S 1 0
      · have h0 : S 292 c = 0 := by
          by_cases w : S 292 c = 0
          · exact w
          · exact absurd ⟨c, rfl, q, w⟩ hx
        have x3 := x_missOf (N := M) (t := 2) (S := S) (c := c) (by omega)
        have mb := msv_lt (c := c) hi.1
        have m0 := (msv_0 (c := c) hi.2.2.2.2.2.2.2.1 (by omega)).2 h0
        have x4 : M 201 (292 + c) = oI (S 292 c) := by
          have := sr_292 (N := M) (S := S) (k := c) (by omega)
          rw [e2] at this
          exact this
        rw [e1] at x3
        refine ⟨nI 0, ?_, ?_⟩
        · rw [if_pos q, if_neg (by decide), x3, e_obi2, m0, if_pos (by decide)]
        · rw [if_pos q, if_neg (by decide), e_add, e_gd (by omega) (by omega), e_ix2 (by omega), x4, h0, e_oli2, if_pos (by decide)]
      · exact ⟨-1, by rw [if_neg q, if_pos (by decide)], by rw [if_neg q, if_pos (by decide)]⟩
    · have x2 := q_isCpuN (N := M) hi.1 (by omega) ha
      rw [e2] at x2
      rw [x_isCpuN ha, e_obi2, x2, e_obi2]
      exact ⟨-1, by rw [if_pos (by decide)], by rw [if_pos (by decide)]⟩
  by_cases hx : ∃ c, a = nI c ∧ c < S 1 0 ∧ S 292 c ≠ 0
  · obtain ⟨c, rfl, hc, h0⟩ := hx
    have x1 := x_isCpu (N := M) (t := 2) (c := c) hi.1 (by omega)
    have x3 := x_missOf (N := M) (t := 2) (S := S) (c := c) (by omega)
    rw [e1] at x1 x3
    have mb := msv_lt (c := c) hi.1
    have m0 : ¬ msv S c = 0 := fun q => h0 ((msv_0 (c := c) hi.2.2.2.2.2.2.2.1 (by omega)).1 q)
    obtain ⟨M', D, p1, ⟨d1, d2, d3, d4⟩, p3, p4, p5, p6⟩ := x_prep r2 ht
    have im := mrg_i (S := S) (D := D) hi d1 d2
    have s9 : MRG S D 6961 0 = D 6961 0 := mrg_l (by unfold lgp; omega)
    -- the class alone, to have its memory
    obtain ⟨v, S2', _, _, y1, _, y3, y4, y5⟩ := soon_both (N := M') (c := c) (k := 999939) (k' := 0) (by omega) p4 60 1 (MRG S D) S M (by omega) mrg_ag im hi (by omega) (by omega) (by omega) (mrg_t d3)
    rw [xs_self p3] at y1
    have eC : xX11_soon (nI c) M = some (v, XS M' 70 S2') := by
      unfold xX11_soon
      rw [x1, e_obi2, if_pos hc, if_neg (by decide), x3, e_obi2, if_neg (by rw [e_eq0 mb]; exact m0), p1, e_obv2, show fu = 999939 + 60 + 1 by unfold fu; omega, y1]
    have fo : ∀ x, x ≠ 0 → x < 70 ∨ 90 ≤ x → XS M' 70 S2' x = M x := fun x hx hx2 => by rw [xs_o (by omega), p5 x hx hx2]
    -- then the reference
    have q1 : XS M' 70 S2' 201 = fl (enc S) := by rw [fo 201 (by omega) (by omega), r1]
    have k1 : CP7 (XS M' 70 S2') 203 201 0 201 = fl (enc S) := by rw [cp7_o (by omega), q1]
    obtain ⟨v', S3', x, Sr', z1, z2, _, _, _⟩ := soon_both (N := M') (c := c) (k := 999939) (k' := 999939) (by omega) p4 60 1 (MRG S D) S (CP7 (XS M' 70 S2') 203 201 0) (by omega) mrg_ag im hi (by omega) (by omega) (by omega) (mrg_t d3)
    rw [xs_self p3, y1] at z1
    have hv : v = v' := congrArg Prod.fst (Option.some.inj z1)
    subst hv
    rw [rs_self k1] at z2
    have x2 := r_isCpu (N := XS M' 70 S2') (c := c) hi.1 (by omega) (by omega)
    rw [rs_self q1] at x2
    have x4 : XS M' 70 S2' 201 (292 + c) = oI (S 292 c) := by
      have := sr_292 (N := XS M' 70 S2') (S := S) (k := c) (by omega)
      rw [rs_self q1] at this
      exact this
    have rg9 : S 292 c ≤ 8 := by
      have := (hi.1 292 c)
      unfold rg at this
      omega
    have eR : xX12_soon (nI c) (XS M' 70 S2') = some (v, CP7 (RS (w4 (CP7 (XS M' 70 S2') 203 201 0) x) Sr') 201 203 0) := by
      unfold xX12_soon
      rw [x2, e_obi2, if_pos hc, if_neg (by decide), e_add, e_gd (by omega) (by omega), e_ix2 (by omega), x4, e_oli2, f_om1 (by omega), if_neg h0, r_keeps, e_obv2, show fu = 999939 + 60 + 1 by unfold fu; omega, z2]
      unfold xX12_soon_76
      rw [r_putsBack, e_obv2]
    have g1 : ∀ x', x' ≠ 201 → x' ≠ 203 → x' ≠ 204 → CP7 (RS (w4 (CP7 (XS M' 70 S2') 203 201 0) x) Sr') 201 203 0 x' = XS M' 70 S2' x' := by
      intro x' a1 a2 a3
      rw [cp7_o a1, rs_o a1]
      unfold w4
      rw [if_neg a3, cp7_o a2]
    refine ⟨v, _, _, PT S Sr', eC, eR, ⟨?_, ?_, ?_⟩, OKS_pt ho, Or.inr ⟨?_, S2', ⟨y3.1, y3.2.2.2.2.2.2.2.2.2.2, y4, by omega⟩, fun k j h8 hk c1 c2 => ?_⟩, fun x' a0 a1 a2 a3 a4 => ?_, fun j hj => ?_⟩
    · funext j
      rw [fl_pt]
      by_cases hj : j < 7460
      · rw [cp7_r hj, if_pos hj, rs_o (by omega)]
        unfold w4
        rw [if_neg (by omega), cp7_r hj, q1]
      · rw [cp7_n (by omega), if_neg hj, rs_201]
    · exact CVS_pt (CVS_e r2 (fun x' h1 h2 => by rw [g1 x' (by omega) (by omega) (by omega), fo x' (by omega) (by omega)]))
    · exact SCP_pt (SCP_e r3 (fun x' h1 h2 => by rw [g1 x' (by omega) (by omega) (by omega), fo x' (by omega) (by omega)]))
    · rw [g1 0 (by omega) (by omega) (by omega), xs_o (by omega)]; exact p4
    · rw [g1 (70 + k) (by omega) (by omega) (by omega)]
      exact xs_r hk c1 c2
    · rw [g1 x' a1 a2 a3, fo x' a0 a4]
    · rw [g1 0 (by omega) (by omega) (by omega), xs_o (by omega), p6 j hj]
  · obtain ⟨v, a1, a2⟩ := hno hx
    exact ⟨v, M, M, S, a1, a2, ⟨r1, r2, r3⟩, ho, THK_le ht (by omega), SFR_r⟩
