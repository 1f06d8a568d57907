/-! ===== the class's walk ===== -/
/-- the walker remembers the state from which it set out -/
def WMEM (M : j_M) (S : a_S) : Prop := M 100 12 = nI (S 1 0) ∧ M 100 13 = nI (S 1 1) ∧ M 100 14 = nI (S 1 2) ∧ M 100 15 = nI (16 * (S 1 0 + 1)) ∧ ∃ n, n ≤ 250 ∧ M 100 10 = nI n ∧ (n = 0 ∨ ∃ K, STR M (16 * (S 1 0 + 1)) 0 K ∧ NOD S K ∧ KEQ K S ∧ SRC K ∧ K 1 7 ≤ 24)
theorem WMEM_w {M : j_M} {S : a_S} {n : Nat} {κ : Nat → a_S} {d sl : Nat → Nat} (hw : WKR M S n κ d sl) (hn : 0 < n) (hk : KEQ (κ 0) S) (h12 : M 100 12 = nI (S 1 0)) (h13 : M 100 13 = nI (S 1 1)) (h14 : M 100 14 = nI (S 1 2)) : WMEM M S := by
  obtain ⟨a1, a2, a3, a4, a5, a6, a7⟩ := hw
  obtain ⟨b1, b2, b3, b4, b5⟩ := a4 0 hn
  exact ⟨h12, h13, h14, a3, n, a1, a2, Or.inr ⟨κ 0, b1, b3, hk, b4, b5⟩⟩
theorem WMEM_e {M M' : j_M} {S : a_S} (h : WMEM M S) (h1 : ∀ j, M' 100 j = M 100 j) (h2 : M' 102 = M 102) (h3 : M' 103 = M 103) (h4 : M' 104 = M 104) : WMEM M' S := by
  unfold WMEM STR at h ⊢
  rw [h1, h1, h1, h1, h1, h2, h3, h4]
  exact h
theorem x_explore {M : j_M} {S : a_S} {b : Nat} (hV : CVS M 70 S) (hi : INV S z0) (hT : TRC S) (h9 : S 6961 0 ≤ b) (hb : b ≤ 2000000000) : ∃ M', xX10_explore 70 M = some M' ∧ WANS S (M' 101) ∧ THN M' S (b + 12000) ∧ WMEM M' S ∧ TWF M M' := by
  have n6 := g_n hi.1
  have v9 : M 70 9 = nI (S 1 0) := hV 0 9 (by omega) (by show 8 ≤ 9; omega) (by show 9 < 15; omega)
  have v10 : M 70 10 = nI (S 1 1) := hV 0 10 (by omega) (by show 8 ≤ 10; omega) (by show 10 < 15; omega)
  have v11 : M 70 11 = nI (S 1 2) := hV 0 11 (by omega) (by show 8 ≤ 11; omega) (by show 11 < 15; omega)
  let M11 : j_M := mw (mw (mw (mw (mw (mw (mw M 100 10 (nI 0)) 100 11 (nI 0)) 100 16 (nI 0)) 100 12 (nI (S 1 0))) 100 13 (nI (S 1 1))) 100 14 (nI (S 1 2))) 100 15 (nI (16 * (S 1 0 + 1)))
  have hM11 : M11 = mw (mw (mw (mw (mw (mw (mw M 100 10 (nI 0)) 100 11 (nI 0)) 100 16 (nI 0)) 100 12 (nI (S 1 0))) 100 13 (nI (S 1 1))) 100 14 (nI (S 1 2))) 100 15 (nI (16 * (S 1 0 + 1))) := rfl
  have o11 : ∀ x, x ≠ 100 → M11 x = M x := fun x hx => by rw [hM11]; simp only [mw_oth hx]
  have c10 : M11 100 10 = nI 0 := by rw [hM11]; simp (disch := omega) only [mw_ne, mw_at]
  have c11 : M11 100 11 = nI 0 := by rw [hM11]; simp (disch := omega) only [mw_ne, mw_at]
  have c16 : M11 100 16 = nI 0 := by rw [hM11]; simp (disch := omega) only [mw_ne, mw_at]
  have c12 : M11 100 12 = nI (S 1 0) := by rw [hM11]; simp (disch := omega) only [mw_ne, mw_at]
  have c13 : M11 100 13 = nI (S 1 1) := by rw [hM11]; simp (disch := omega) only [mw_ne, mw_at]
  have c14 : M11 100 14 = nI (S 1 2) := by rw [hM11]; simp (disch := omega) only [mw_ne, mw_at]
  have c15 : M11 100 15 = nI (16 * (S 1 0 + 1)) := by rw [hM11]; simp (disch := omega) only [mw_ne, mw_at]
  have e0 : xX10_explore 70 M = obi (xX10_enter 70 (nI 0) (FIL M11 106 0 1024 (nI 0))) fun v14 M13 => xX10_explore_69 70 fu (nI 0) M13 := by
    unfold xX10_explore
    rw [e_oml2, e_oml2, e_gz0, e_oml2, mw_oth (by omega), mw_oth (by omega), mw_oth (by omega), v9, e_oli2, e_oml2, mw_oth (by omega), mw_oth (by omega), mw_oth (by omega), mw_oth (by omega), v10, e_oli2, e_oml2, mw_oth (by omega), mw_oth (by omega), mw_oth (by omega), mw_oth (by omega), mw_oth (by omega), v11, e_oli2, e_oml2, mw_ne (by omega), mw_ne (by omega), mw_at (by omega), e_oli2, e_add, e_mul, e_oml2, Nat.mul_comm (S 1 0 + 1) 16, ← hM11, x_fil (by omega) (by omega), e_obv2]
  have hNr := NOD_r hi
  generalize M11 = Ma at *
  have oF : ∀ x, x ≠ 100 → x ≠ 106 → FIL Ma 106 0 1024 (nI 0) x = M x := fun x h1 h2 => by rw [fil_o h2, o11 x h1]
  have F100 : FIL Ma 106 0 1024 (nI 0) 100 = Ma 100 := fil_o (by omega)
  have hVF : CVS (FIL Ma 106 0 1024 (nI 0)) 70 S := CVS_e hV (fun x h1 h2 => oF x (by omega) (by omega))
  have hW0 : ∀ κ : Nat → a_S, WKR (FIL Ma 106 0 1024 (nI 0)) S 0 κ (fun _ => 0) (fun _ => 0) := fun κ => ⟨by omega, by rw [F100]; exact c10, by rw [F100]; exact c15, fun s hs => absurd hs (Nat.not_lt_zero _), fun q hq => ⟨fil_r hq, Nat.zero_le _⟩, fun q q' _ _ _ h => absurd rfl h, fun s hs => absurd hs (Nat.not_lt_zero _)⟩
  have f100 : ∀ j, FIL Ma 106 0 1024 (nI 0) 100 j = Ma 100 j := fun j => by rw [F100]
  generalize FIL Ma 106 0 1024 (nI 0) = M12 at *
  have e103 : ∀ Mx : j_M, Mx 100 16 = nI 1 → xX10_explore_103 70 Mx = some (FIL Mx 101 0 5 (-1)) := by
    intro Mx h
    unfold xX10_explore_103
    rw [h, e_oli2, if_neg (by decide), x_fil (by omega) (by omega), e_obv2]
  have fin : ∀ Mx : j_M, TMU S → TWF M Mx → THN Mx S (b + 12000) → WMEM Mx S → WANS S (FIL Mx 101 0 5 (-1) 101) ∧ THN (FIL Mx 101 0 5 (-1)) S (b + 12000) ∧ WMEM (FIL Mx 101 0 5 (-1)) S ∧ TWF M (FIL Mx 101 0 5 (-1)) := by
    intro Mx h1 h2 h3 h4
    refine ⟨Or.inl ⟨h1, fun j hj => fil_r hj⟩, ?_, WMEM_e h4 (fun j => by rw [fil_o (by omega)]) (fil_o (by omega)) (fil_o (by omega)) (fil_o (by omega)), fun x hx => by rw [fil_o (by omega), h2 x hx]⟩
    obtain ⟨T, q1, q2, q3, q4⟩ := h3
    exact ⟨T, CVS_e q1 (fun x _ _ => fil_o (by omega)), q2, q3, q4⟩
  rcases x_enter (a := 0) (hW0 (fun _ => S)) hVF hNr with ⟨q24, e1⟩ | ⟨q24, S', p1, hcase⟩
  · have m10 : mw M12 100 16 (nI 1) 100 10 = nI 0 := by rw [mw_ne (by omega), f100, c10]
    have ef : xX10_explore 70 M = some (FIL (mw M12 100 16 (nI 1)) 101 0 5 (-1)) := by
      rw [e0, e1, e_obi2, show fu = 999999 + 1 from rfl, xX10_explore_69.eq_2, m10, e_oli2, if_pos (by decide), e103 _ (mw_at (by omega))]
    refine ⟨_, ef, fin _ (Or.inl ⟨S, RCH_0 KEQ_r hNr, q24⟩) (fun x hx => by rw [mw_oth (by omega), oF x (by omega) (by omega)]) ⟨S, CVS_e hVF (fun x _ _ => mw_oth (by omega)), hNr, hT, by omega⟩ ⟨by rw [mw_ne (by omega), f100, c12], by rw [mw_ne (by omega), f100, c13], by rw [mw_ne (by omega), f100, c14], by rw [mw_ne (by omega), f100, c15], 0, by omega, m10, Or.inl rfl⟩⟩
  · rcases hcase with ⟨s, M', hs, _⟩ | ⟨hne, hn, sS', M', sl', e1, v1, w1, f1, f2⟩ | ⟨hne, hn, _⟩
    · exact absurd hs (Nat.not_lt_zero _)
    · have hS' := NOD_prm hNr p1
      have h7 : S' 1 7 = S 1 7 := p1.1 1 7 (by omega)
      have eκ : kup (fun _ => S) 0 S' = fun t => if t = 0 then S' else S := rfl
      have hB0 := BF_0 (KEQ_prm p1) hS' (by omega)
      have hB : BF S 1 (kup (fun _ => S) 0 S') (dup (fun _ => 0) 0 0) (EE 0 (fun _ => 0) (fun _ => 0)) 0 := by
        have k0 : kup (fun _ => S) 0 S' 0 = S' := if_pos rfl
        have d0 : ∀ t, dup (fun _ => 0) 0 0 t = 0 := fun t => by unfold dup; split <;> rfl
        have nE : ∀ a b, ¬ EE 0 (fun _ => 0) (fun _ => 0) a b := fun a b ⟨i, h1, _⟩ => absurd h1 (Nat.not_lt_zero _)
        refine ⟨by omega, by rw [k0]; exact KEQ_prm p1, d0 0, fun a b h1 h2 => by omega, fun t ht => ?_, fun a b _ _ => by rw [d0, d0]; exact Nat.le_refl _, fun _ t _ => by rw [d0]; exact Nat.zero_le _, fun a b h => absurd h (nE a b), fun t h1 h2 => by omega, fun a i h => absurd h (Nat.not_lt_zero _)⟩
        have : t = 0 := by omega
        rw [this, k0]
        exact ⟨RCH_0 (KEQ_prm p1) hS', hS', by omega⟩
      have hX : XST M' S 1 (kup (fun _ => S) 0 S') (dup (fun _ => 0) 0 0) sl' 0 (fun _ => 0) (fun _ => 0) 0 0 b := by
        refine ⟨w1, ⟨S', v1, hS', TRC_c hT (fun i => p1.1 6962 i (by omega)), by rw [p1.1 6961 0 (by omega)]; omega⟩, hB, by rw [f1 11 (by omega), f100, c11], fun i hi => absurd hi (Nat.not_lt_zero _), by omega, by rw [f1 16 (by omega), f100, c16], fun i hi => absurd hi (Nat.not_lt_zero _)⟩
      have hE : EDS M' 0 0 (fun _ => 0) (fun _ => 0) := ⟨fun t ht => absurd ht (Nat.not_lt_zero _), fun t ht => absurd ht (Nat.not_lt_zero _), fun i hi => absurd hi (Nat.not_lt_zero _), rfl⟩
      have tw : TWF M M' := fun x hx => by rw [f2 x (by omega) (by omega) (by omega), oF x (by omega) (by omega)]
      have d12 : M' 100 12 = nI (S 1 0) := by rw [f1 12 (by omega), f100, c12]
      have d13 : M' 100 13 = nI (S 1 1) := by rw [f1 13 (by omega), f100, c13]
      have d14 : M' 100 14 = nI (S 1 2) := by rw [f1 14 (by omega), f100, c14]
      rcases x_expl (f := 999749) hb 250 0 M' 1 _ _ sl' 0 _ _ _ (by omega) hX (by omega) hE with ⟨M2, n2, κ2, d2, sl2, ec2, es2, et2, ee2, g1, g2, g3, g4, g5⟩ | ⟨hTM, M2, g1, g2, g3, g4, n2, κ2, d2, sl2, g5, g6, g7, g8⟩
      · obtain ⟨M3, e3, h3, o3⟩ := x_sumUp g2 g3 (by rw [g5 12 (by omega) (by omega), d12])
        have h16 := g2.2.2.2.2.2.2.1
        have ef : xX10_explore 70 M = some M3 := by
          rw [e0, e1, e_obi2, show fu = 999749 + 250 + 1 by unfold fu; omega, g1]
          unfold xX10_explore_103
          rw [h16, e_oli2, if_pos (by decide), e3, e_obv2]
        obtain ⟨T, q1, q2, q3, q4⟩ := g2.2.1
        have n2l := g2.1.1
        refine ⟨M3, ef, h3, ⟨T, CVS_e q1 (fun x _ _ => o3 x (by omega) (by omega) (by omega)), q2, q3, by omega⟩, ?_, fun x hx => by rw [o3 x (by omega) (by omega) (by omega), g4 x hx, tw x hx]⟩
        refine WMEM_e (M := M2) (WMEM_w g2.1 g2.2.2.1.1 g2.2.2.1.2.1 (by rw [g5 12 (by omega) (by omega), d12]) (by rw [g5 13 (by omega) (by omega), d13]) (by rw [g5 14 (by omega) (by omega), d14])) (fun j => by rw [o3 100 (by omega) (by omega) (by omega)]) (o3 102 (by omega) (by omega) (by omega)) (o3 103 (by omega) (by omega) (by omega)) (o3 104 (by omega) (by omega) (by omega))
      · have ef : xX10_explore 70 M = some (FIL M2 101 0 5 (-1)) := by
          rw [e0, e1, e_obi2, show fu = 999749 + 250 + 1 by unfold fu; omega, g1, e103 _ g2]
        exact ⟨_, ef, fin _ hTM (TWF_t tw g4) g3 (WMEM_w g5 g6 g7 (by rw [g8 12 (by omega) (by omega), d12]) (by rw [g8 13 (by omega) (by omega), d13]) (by rw [g8 14 (by omega) (by omega), d14]))⟩
    · omega
/-- the walker, over the calls -/
def WLK (M : j_M) : Prop := M 0 4 = 0 ∨ (M 0 4 ≠ 0 ∧ (M 100 10 = nI 0 ∨ ∃ S0, INV S0 z0 ∧ WANS S0 (M 101) ∧ WMEM M S0))
theorem x_knows {M : j_M} {S : a_S} (hV : CVS M 70 S) (hi : INV S z0) (hW : M 100 10 = nI 0 ∨ ∃ S0, INV S0 z0 ∧ WANS S0 (M 101) ∧ WMEM M S0) : ∃ z S', xX10_knows 70 M = some (nI z, XS M 70 S') ∧ PRM S S' ∧ (z = 0 ∨ (z = 1 ∧ ∃ S0, WANS S0 (M 101) ∧ PEQ S0 S)) := by
  have v8 : M 70 8 = nI (S 1 7) := hV 0 8 (by omega) (Nat.le_refl _) (by show 8 < 15; omega)
  obtain ⟨S', e1, p1, s1⟩ := x_sort (N := M) (t := 70) (S := S) (by omega) hi
  rw [xs_self hV] at e1
  have hi' := INV_prm p1 hi
  have xo : ∀ x, 100 ≤ x → XS M 70 S' x = M x := fun x hx => xs_o (by omega)
  have w9 : XS M 70 S' 70 9 = nI (S' 1 0) := xr_0_9
  have w10 : XS M 70 S' 70 10 = nI (S' 1 1) := xr_0_10
  have w11 : XS M 70 S' 70 11 = nI (S' 1 2) := xr_0_11
  have st : xX10_knows 70 M = oli (M 100 10) fun v3 => (if v3 ≤ (0 : Int32) then some ((nI 0), XS M 70 S') else oli (XS M 70 S' 70 9) fun v4 => oli (M 100 12) fun v5 => (if v4 = v5 then oli (XS M 70 S' 70 10) fun v6 => oli (M 100 13) fun v7 => (if v6 = v7 then oli (XS M 70 S' 70 11) fun v8 => oli (M 100 14) fun v9 => (if v8 = v9 then obi (xX10_isState 70 (nI 0) (XS M 70 S')) fun v11 M10 => (if v11 = (0 : Int32) then some ((nI 0), M10) else some ((nI 1), M10)) else some ((nI 0), XS M 70 S')) else some ((nI 0), XS M 70 S')) else some ((nI 0), XS M 70 S'))) := by
    unfold xX10_knows
    rw [v8, e_oli2, e1, e_obv2, xo 100 (by omega)]
  rcases hW with h0 | ⟨S0, i0, hA, m12, m13, m14, m15, n, hn, m10, hm⟩
  · refine ⟨0, S', ?_, p1, Or.inl rfl⟩
    rw [st, h0, e_oli2, if_pos (by decide)]
  · rw [st, m10, e_oli2, w9, w10, w11, m12, m13, m14]
    simp only [e_oli2]
    rcases hm with rfl | ⟨K, k1, k2, k3, k4, k5⟩
    · rw [if_pos (by decide)]
      exact ⟨0, S', rfl, p1, Or.inl rfl⟩
    · by_cases c0 : nI n ≤ 0
      · rw [if_pos c0]
        exact ⟨0, S', rfl, p1, Or.inl rfl⟩
      · have g0 := g_n i0.1
        have g1 := g_n hi'.1
        have t0 : S0 1 1 ≤ 12 := by
          have := i0.1 1 1
          unfold rg at this
          omega
        have t1 : S' 1 1 ≤ 12 := by
          have := hi'.1 1 1
          unfold rg at this
          omega
        have r0 : S0 1 2 ≤ 8 := by
          have := i0.1 1 2
          unfold rg at this
          omega
        have r1 : S' 1 2 ≤ 8 := by
          have := hi'.1 1 2
          unfold rg at this
          omega
        rw [if_neg c0]
        by_cases c1 : S' 1 0 = S0 1 0
        · rw [if_pos (by rw [c1])]
          by_cases c2 : S' 1 1 = S0 1 1
          · rw [if_pos (by rw [c2])]
            by_cases c3 : S' 1 2 = S0 1 2
            · rw [if_pos (by rw [c3])]
              obtain ⟨z, e2, hz⟩ := x_isState (N := M) (S := S') (u := 16 * (S0 1 0 + 1)) (s := 0) (by omega) (by omega) m15 k1 k2.1 hi' k5
              rw [e2, e_obi2]
              rcases hz with ⟨rfl, hz⟩ | ⟨rfl, hz⟩
              · rw [if_neg (by decide)]
                refine ⟨1, S', rfl, p1, Or.inr ⟨rfl, S0, hA, ?_⟩⟩
                have hp : PEQ K S' := by
                  refine ⟨fun r x hr => cell_in k2.1 hi' g0 hz.2.2 r x (PRS_cr hr) (by rw [k2.2.1.1] at hr; exact hr), by rw [k2.2.1.1, c1], by rw [k2.2.1.2.1, c2], by rw [k2.2.1.2.2.1, c3], hz.1, fun φ hφ => ?_⟩
                  unfold mq
                  rw [hz.1]
                  exact sm_c _ (fun i hi2 => hφ _ _ (lcv_in k2.1.1 k2.1.2.2.2.1 (by rw [hz.1]; exact hi2) hi'.1 hi'.2.2.2.1 hi2 (hz.2.1 i hi2)))
                exact PEQ_t (PEQ_s (PEQ_k k3)) (PEQ_t hp (PEQ_k (KEQ_prm p1)))
              · rw [if_pos (by decide)]
                exact ⟨0, S', rfl, p1, Or.inl rfl⟩
            · rw [if_neg (by rw [e_eq (by omega) (by omega)]; exact c3)]
              exact ⟨0, S', rfl, p1, Or.inl rfl⟩
          · rw [if_neg (by rw [e_eq (by omega) (by omega)]; exact c2)]
            exact ⟨0, S', rfl, p1, Or.inl rfl⟩
        · rw [if_neg (by rw [e_eq (by omega) (by omega)]; exact c1)]
          exact ⟨0, S', rfl, p1, Or.inl rfl⟩
