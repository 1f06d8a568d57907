/-! ===== the reference goes through all the states ===== -/
theorem r_wf {N : j_M} {S K : a_S} {s : Nat} (hs : s < 251) (hw : STW N s K) (h24 : K 1 7 ≤ 24) : xX12_walksFrom (nI s) (RS N S) = xX12_walksFrom_15 fu (nI s) (nI (K 1 7)) (nI 0) (RS N (LAY K S)) := by
  have e7 : RS N (LAY K S) 201 7 = nI (K 1 7) := by
    rw [sr_1 (by omega), lay_7]
  unfold xX12_walksFrom
  rw [r_lay hs hw h24, e_obv2, e_gd (by omega) (by omega), e_ix2 (by omega), e7, e_oli2]
theorem r_wk38 {S0 : a_S} {b f w : Nat} (hb : b ≤ 2000000000) : ∀ (m s : Nat) (N : j_M) (S : a_S) (n : Nat) (κ : Nat → a_S) (d : Nat → Nat) (ec : Nat) (es et : Nat → Nat), s + m = 250 → YST N S0 n κ d ec es et s 0 → RWN S0 S (b + 2 * (24 * s + 0)) → s ≤ n → (∃ N' S' n' κ' d' ec' es' et', xX12_walk_38 (f + m + 1) (nI w) (nI s) (RS N S) = xX12_walk_64 (nI w) (RS N' S') ∧ YST N' S0 n' κ' d' ec' es' et' n' 0 ∧ RWN S0 S' (b + 12000) ∧ YFR N N') ∨ (TMU S0 ∧ ∃ N' S', xX12_walk_38 (f + m + 1) (nI w) (nI s) (RS N S) = xX12_walk_64 (nI w) (RS N' S') ∧ N' 200 31 = nI 1 ∧ YFR N N') := by
  intro m
  have fin : ∀ (f' : Nat) (N : j_M) (S : a_S) (s : Nat) (κ : Nat → a_S) (d : Nat → Nat) (ec : Nat) (es et : Nat → Nat), YST N S0 s κ d ec es et s 0 → RWN S0 S (b + 2 * (24 * s + 0)) → (∃ N' S' n' κ' d' ec' es' et', xX12_walk_38 (f' + 1) (nI w) (nI s) (RS N S) = xX12_walk_64 (nI w) (RS N' S') ∧ YST N' S0 n' κ' d' ec' es' et' n' 0 ∧ RWN S0 S' (b + 12000) ∧ YFR N N') := by
    intro f' N S s κ d ec es et h hS
    have hn := h.1.1
    refine ⟨N, S, s, κ, d, ec, es, et, ?_, h, ⟨hS.1, by have := hS.2; omega⟩, YFR_r⟩
    rw [xX12_walk_38.eq_2, rs_o (by omega), h.1.2.1, e_oli2, if_pos (by rw [e_le (by omega) (by omega)]; omega)]
  induction m with
  | zero =>
    intro s N S n κ d ec es et hm h hS hs
    have hn := h.1.1
    have : s = n := by omega
    subst this
    exact Or.inl (fin _ N S s κ d ec es et h hS)
  | succ m ih =>
    intro s N S n κ d ec es et hm h hS hs
    have hn := h.1.1
    by_cases c : s = n
    · subst c
      exact Or.inl (fin _ N S s κ d ec es et h hS)
    · have hsn : s < n := by omega
      obtain ⟨b1, b2, b3, b4, b5⟩ := h.1.2.2 s hsn
      have st : xX12_walk_38 (f + (m + 1) + 1) (nI w) (nI s) (RS N S) = obv (xX12_walksFrom_15 (999999 - κ s 1 7 + κ s 1 7 + 1) (nI s) (nI (κ s 1 7)) (nI 0) (RS N (LAY (κ s) S))) fun M3 => xX12_walk_38 (f + m + 1) (nI w) (nI (s + 1)) M3 := by
        rw [show f + (m + 1) + 1 = (f + m + 1) + 1 by omega, xX12_walk_38.eq_2, rs_o (by omega), h.1.2.1, e_oli2, if_neg (by rw [e_le (by omega) (by omega)]; omega), h.2.2.2.2.2.1, e_oli2, if_pos (by decide), r_wf (by omega) b1 b5, show 999999 - κ s 1 7 + κ s 1 7 + 1 = fu by unfold fu; omega, e_add]
      rw [st]
      have hL : RWN S0 (LAY (κ s) S) (b + 2 * (24 * s + 0)) := ⟨NOD_lay b3 hS.1, by rw [lay_o (by unfold cr; omega) (by omega) (by omega)]; exact hS.2⟩
      rcases r_wf15 (K := κ s) (f := 999999 - κ s 1 7) (by omega) hb (κ s 1 7) 0 N (LAY (κ s) S) n κ d ec es et (by omega) h hL hsn rfl with ⟨N', S', n', κ', d', ec', es', et', g1, g2, g3, g4, g5, g6⟩ | ⟨hT, N', S', n', g1, g2, g3, g4, g5⟩
      · rw [g1, e_obv2]
        obtain ⟨q1, q2, q3, q4, q5, q6, q7⟩ := g2
        have hB := BF_next q2 g4 (fun i hi => q7 i (by rw [g5] at hi; exact hi) hi)
        have h' : YST N' S0 n' κ' d' ec' es' et' (s + 1) 0 := ⟨q1, hB, q3, q4, by omega, q6, fun i hi => absurd hi (Nat.not_lt_zero _)⟩
        rcases ih (s + 1) N' S' n' κ' d' ec' es' et' (by omega) h' ⟨g3.1, by have := g3.2; omega⟩ (by omega) with ⟨N2, S2, n2, κ2, d2, ec2, es2, et2, k1, k2, k3, k4⟩ | ⟨hT, N2, S2, k1, k2, k3⟩
        · exact Or.inl ⟨N2, S2, n2, κ2, d2, ec2, es2, et2, k1, k2, k3, YFR_t g6 k4⟩
        · exact Or.inr ⟨hT, N2, S2, k1, k2, YFR_t g6 k3⟩
      · right
        refine ⟨hT, N', S', ?_, g2, g5⟩
        rw [g1, e_obv2, xX12_walk_38.eq_2, rs_o (by omega), g3, e_oli2]
        by_cases v : nI n' ≤ nI (s + 1)
        · rw [if_pos v]
        · rw [if_neg v, g2, e_oli2, if_neg (by decide)]
theorem r_walk0 {M : j_M} {S : a_S} {b w : Nat} (h1 : M 201 = fl (enc S)) (hi : INV S z0) (h9 : S 6961 0 ≤ b) (hb : b ≤ 2000000000) (hw : w ≤ 4) : ∃ N' S', xX12_walk (nI w) M = xX12_walk_64 (nI w) (RS N' S') ∧ YFR (CP7 M 203 201 0) N' ∧ ((TMU S ∧ N' 200 31 = nI 1) ∨ (∃ n κ d ec es et, YST N' S n κ d ec es et n 0 ∧ NOD S S')) := by
  have hNr := NOD_r hi
  have k1 : CP7 M 203 201 0 201 = fl (enc S) := by rw [cp7_o (by omega), h1]
  have e0 : xX12_walk (nI w) M = obi (xX12_stateNow (nI 0) (RS (mw (mw (mw (CP7 M 203 201 0) 200 29 (nI 0)) 200 30 (nI 0)) 200 31 (nI 0)) S)) fun v8 M7 => xX12_walk_38 fu (nI w) (nI 0) M7 := by
    unfold xX12_walk xX12_isIn
    rw [if_neg (by rw [e_lt (by omega) (by omega)]; omega), if_neg (by rw [e_lt (by omega) (by omega)]; omega), e_obi2, if_neg (by decide), r_keeps, e_obv2, e_oml2, e_oml2, e_gz0, e_oml2, ← rs_wo (by omega), ← rs_wo (by omega), ← rs_wo (by omega), rs_self k1]
  have y0 : YFR (CP7 M 203 201 0) (mw (mw (mw (CP7 M 203 201 0) 200 29 (nI 0)) 200 30 (nI 0)) 200 31 (nI 0)) := ⟨fun x a _ _ _ _ _ => by rw [mw_oth a, mw_oth a, mw_oth a], fun j a b c => by rw [mw_ne c, mw_ne b, mw_ne a]⟩
  have n29 : mw (mw (mw (CP7 M 203 201 0) 200 29 (nI 0)) 200 30 (nI 0)) 200 31 (nI 0) 200 29 = nI 0 := by rw [mw_ne (by omega), mw_ne (by omega), mw_at (by omega)]
  have n30 : mw (mw (mw (CP7 M 203 201 0) 200 29 (nI 0)) 200 30 (nI 0)) 200 31 (nI 0) 200 30 = nI 0 := by rw [mw_ne (by omega), mw_at (by omega)]
  have n31 : mw (mw (mw (CP7 M 203 201 0) 200 29 (nI 0)) 200 30 (nI 0)) 200 31 (nI 0) 200 31 = nI 0 := mw_at (by omega)
  rw [e0]
  generalize mw (mw (mw (CP7 M 203 201 0) 200 29 (nI 0)) 200 30 (nI 0)) 200 31 (nI 0) = N at *
  have hW : RKR N S 0 (fun _ => S) (fun _ => 0) := ⟨by omega, n29, fun s hs => absurd hs (Nat.not_lt_zero _)⟩
  rcases r_stateNow (a := 0) hW hNr with ⟨q24, e1⟩ | ⟨q24, S', p1, hcase⟩
  · refine ⟨mw N 200 31 (nI 1), S, ?_, YFR_t y0 ⟨fun x a _ _ _ _ _ => mw_oth a, fun j _ _ c => mw_ne c⟩, Or.inl ⟨Or.inl ⟨S, RCH_0 KEQ_r hNr, q24⟩, mw_at (by omega)⟩⟩
    rw [e1, e_obi2, show fu = 999999 + 1 from rfl, xX12_walk_38.eq_2, rs_o (by omega), mw_ne (by omega), n29, e_oli2, if_pos (by decide)]
  · rcases hcase with ⟨s, hs, _⟩ | ⟨hne, hn, sS', N', e1, w1, f1, f2⟩ | ⟨hne, hn, _⟩
    · exact absurd hs (Nat.not_lt_zero _)
    · have hS' := NOD_prm hNr p1
      have h7 : S' 1 7 = S 1 7 := p1.1 1 7 (by omega)
      have hB : BF S 1 (kup (fun _ => S) 0 S') (dup (fun _ => 0) 0 0) (EE 0 (fun _ => 0) (fun _ => 0)) 0 := by
        have k0 : kup (fun _ => S) 0 S' 0 = S' := if_pos rfl
        have d0 : ∀ t, dup (fun _ => 0) 0 0 t = 0 := fun t => by unfold dup; split <;> rfl
        have nE : ∀ a b, ¬ EE 0 (fun _ => 0) (fun _ => 0) a b := fun a b ⟨i, h1, _⟩ => absurd h1 (Nat.not_lt_zero _)
        refine ⟨by omega, by rw [k0]; exact KEQ_prm p1, d0 0, fun a b h1 h2 => by omega, fun t ht => ?_, fun a b _ _ => by rw [d0, d0]; exact Nat.le_refl _, fun _ t _ => by rw [d0]; exact Nat.zero_le _, fun a b h => absurd h (nE a b), fun t h1 h2 => by omega, fun a i h => absurd h (Nat.not_lt_zero _)⟩
        have : t = 0 := by omega
        rw [this, k0]
        exact ⟨RCH_0 (KEQ_prm p1) hS', hS', by omega⟩
      have hY : YST N' S 1 (kup (fun _ => S) 0 S') (dup (fun _ => 0) 0 0) 0 (fun _ => 0) (fun _ => 0) 0 0 := ⟨w1, hB, by rw [f1 30 (by omega), n30], fun i hi => absurd hi (Nat.not_lt_zero _), by omega, by rw [f1 31 (by omega), n31], fun i hi => absurd hi (Nat.not_lt_zero _)⟩
      have y1 : YFR (CP7 M 203 201 0) N' := YFR_t y0 ⟨fun x a _ b c _ _ => f2 x a b c, fun j a _ _ => f1 j a⟩
      rw [e1, e_obi2, show fu = 999749 + 250 + 1 by unfold fu; omega]
      rcases r_wk38 (f := 999749) (w := w) hb 250 0 N' S' 1 _ _ 0 _ _ (by omega) hY ⟨hS', by rw [p1.1 6961 0 (by omega)]; omega⟩ (by omega) with ⟨N2, S2, n2, κ2, d2, ec2, es2, et2, g1, g2, g3, g4⟩ | ⟨hT, N2, S2, g1, g2, g3⟩
      · exact ⟨N2, S2, g1, YFR_t y1 g4, Or.inr ⟨n2, κ2, d2, ec2, es2, et2, g2, g3.1⟩⟩
      · exact ⟨N2, S2, g1, YFR_t y1 g3, Or.inl ⟨hT, g2⟩⟩
    · omega
