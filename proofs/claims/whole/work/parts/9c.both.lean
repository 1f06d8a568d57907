/-! ===== an act: both ===== -/
theorem act_both {Mc Mr : j_M} {T : Nat → Nat} {n p v c s pl : Nat} (h : CS Mc T n p) (hC : CST Mc) (h11 : Mc 28 11 = nI v) (hv : v < 5) (hv1 : 1 ≤ v) (hc : Mc 28 7 = nI c) (hc2 : c < 1000000000) (hr : RT Mr T n 0 1 v pl p) (hs : Mr 200 16 = nI s) (hs2 : s < 400) (h0 : Mr 206 (4 * s + 2) = nI 0) : ∃ Mc' z Mr', xX8_readAct (nI 0) Mc = some Mc' ∧ AK Mc Mc' c ∧ xX12_oneOf Mr = some (nI z, Mr') ∧ HK Mr Mr' ∧ ((z = 1 ∧ ∃ a b p2 k' v' pl' nx', p < p2 ∧ CS Mc' T n p2 ∧ LEX T n p2 k' v' pl' nx' ∧ RT Mr' T n 0 k' v' pl' nx' ∧ ROW Mr Mr' s v a b ∧ AOK (fun j => if j = 0 then v - 1 else if j = 1 then a else b) ∧ (c < 200 → Mc' 30 c = nI (v + 16 * a + 2048 * b))) ∨ (z = 0 ∧ ∃ f q, f ≠ 0 ∧ f < 10 ∧ CF Mc' f q ∧ RF Mr' f q)) := by
  obtain ⟨k1, v1, pl1, n1, hx1⟩ := LEX_ex T n p
  obtain ⟨k2, v2, pl2, n2, hx2⟩ := LEX_ex T n n1
  obtain ⟨k3, v3, pl3, n3, hx3⟩ := LEX_ex T n n2
  obtain ⟨k4, v4, pl4, n4, hx4⟩ := LEX_ex T n n3
  have b1 := LEX_b hx1 h.2.2.2.1
  have b2 := LEX_b hx2 b1.2.2.2.1
  have b3 := LEX_b hx3 b2.2.2.2.1
  have l1 : k1 = 2 → p < n1 := fun q => Nat.lt_of_le_of_lt b1.1 (b1.2.2.2.2.1 (by rw [q]; decide))
  have l2 : n1 ≤ n2 := Nat.le_trans b2.1 b2.2.2.1
  have l3 : n2 ≤ n3 := Nat.le_trans b3.1 b3.2.2.1
  clear b1 b2 b3
  have hcs : v = 1 ∨ v = 4 ∨ v = 2 ∨ v = 3 := by omega
  have one : (v = 1 ∨ v = 4) → wse v = 0 → (∀ a, wlo v ≤ a → a ≤ whi v → AOK (fun j => if j = 0 then v - 1 else if j = 1 then a else 0)) → ∃ Mc' z Mr', xX8_readAct (nI 0) Mc = some Mc' ∧ AK Mc Mc' c ∧ xX12_oneOf Mr = some (nI z, Mr') ∧ HK Mr Mr' ∧ ((z = 1 ∧ ∃ a b p2 k' v' pl' nx', p < p2 ∧ CS Mc' T n p2 ∧ LEX T n p2 k' v' pl' nx' ∧ RT Mr' T n 0 k' v' pl' nx' ∧ ROW Mr Mr' s v a b ∧ AOK (fun j => if j = 0 then v - 1 else if j = 1 then a else b) ∧ (c < 200 → Mc' 30 c = nI (v + 16 * a + 2048 * b))) ∨ (z = 0 ∧ ∃ f q, f ≠ 0 ∧ f < 10 ∧ CF Mc' f q ∧ RF Mr' f q)) := by
    intro hw hse hA
    obtain ⟨A, eA, kA, a1, a2, a3⟩ := x_act1 (u := 0) h hC h11 (by omega) hse (by omega) hc hc2 hx1 hx2
    obtain ⟨z, B, eB, kB, d1, d2, d3⟩ := r_act1 hr hw hs hs2 h0 hx1 hx2 hx3
    refine ⟨A, z, B, eA, kA, eB, kB, ?_⟩
    by_cases c1 : k1 = 2
    · by_cases c2 : wlo v ≤ v1 ∧ v1 ≤ whi v
      · by_cases c3 : k2 = 3
        · obtain ⟨y1, y2⟩ := (a1 c1 c2.1 c2.2).1 c3
          obtain ⟨z1, z2, z3⟩ := (d1 c1 c2.1 c2.2).1 c3
          exact Or.inl ⟨z1, v1, 0, n2, k3, v3, pl3, n3, Nat.lt_of_lt_of_le (l1 c1) l2, y1, hx3, z2, z3, hA v1 c2.1 c2.2, fun q => y2 q⟩
        · obtain ⟨z1, z2⟩ := (d1 c1 c2.1 c2.2).2 c3
          exact Or.inr ⟨z1, 1, pl2, by decide, by decide, (a1 c1 c2.1 c2.2).2 c3, z2⟩
      · obtain ⟨z1, z2⟩ := d2 c1 c2
        exact Or.inr ⟨z1, 2, pl1, by decide, by decide, a2 c1 c2, z2⟩
    · obtain ⟨z1, z2⟩ := d3 c1
      exact Or.inr ⟨z1, 1, pl1, by decide, by decide, a3 c1, z2⟩
  have two : (v = 2 ∨ v = 3) → wse v = 9999 + 1 → (∀ a b, wlo v ≤ a → a ≤ whi v → b ≤ 9999 → AOK (fun j => if j = 0 then v - 1 else if j = 1 then a else b)) → ∃ Mc' z Mr', xX8_readAct (nI 0) Mc = some Mc' ∧ AK Mc Mc' c ∧ xX12_oneOf Mr = some (nI z, Mr') ∧ HK Mr Mr' ∧ ((z = 1 ∧ ∃ a b p2 k' v' pl' nx', p < p2 ∧ CS Mc' T n p2 ∧ LEX T n p2 k' v' pl' nx' ∧ RT Mr' T n 0 k' v' pl' nx' ∧ ROW Mr Mr' s v a b ∧ AOK (fun j => if j = 0 then v - 1 else if j = 1 then a else b) ∧ (c < 200 → Mc' 30 c = nI (v + 16 * a + 2048 * b))) ∨ (z = 0 ∧ ∃ f q, f ≠ 0 ∧ f < 10 ∧ CF Mc' f q ∧ RF Mr' f q)) := by
    intro hw hse hA
    obtain ⟨A, eA, kA, a1, a2, a3⟩ := x_act2 (u := 0) h hC h11 (by omega) hse (by omega) hc hc2 hx1 hx2 hx3
    obtain ⟨z, B, eB, kB, d1, d2, d3⟩ := r_act2 hr hw hs hs2 hx1 hx2 hx3 hx4
    refine ⟨A, z, B, eA, kA, eB, kB, ?_⟩
    by_cases c1 : k1 = 2
    · by_cases c2 : wlo v ≤ v1 ∧ v1 ≤ whi v
      · obtain ⟨x1, x2, x3⟩ := a1 c1 c2.1 c2.2
        obtain ⟨y1, y2, y3⟩ := d1 c1 c2.1 c2.2
        by_cases c3 : k2 = 2
        · by_cases c4 : v2 ≤ 9999
          · by_cases c5 : k3 = 3
            · obtain ⟨u1, u2⟩ := (x1 c3 c4).1 c5
              obtain ⟨z1, z2, z3⟩ := (y1 c3 c4).1 c5
              exact Or.inl ⟨z1, v1, v2, n3, k4, v4, pl4, n4, Nat.lt_of_lt_of_le (l1 c1) (Nat.le_trans l2 l3), u1, hx4, z2, z3, hA v1 v2 c2.1 c2.2 c4, fun q => u2 q⟩
            · obtain ⟨z1, z2⟩ := (y1 c3 c4).2 c5
              exact Or.inr ⟨z1, 1, pl3, by decide, by decide, (x1 c3 c4).2 c5, z2⟩
          · obtain ⟨z1, z2⟩ := y2 c3 c4
            exact Or.inr ⟨z1, 2, pl2, by decide, by decide, x2 c3 c4, z2⟩
        · obtain ⟨z1, z2⟩ := y3 c3
          exact Or.inr ⟨z1, 1, pl2, by decide, by decide, x3 c3, z2⟩
      · obtain ⟨z1, z2⟩ := d2 c1 c2
        exact Or.inr ⟨z1, 2, pl1, by decide, by decide, a2 c1 c2, z2⟩
    · obtain ⟨z1, z2⟩ := d3 c1
      exact Or.inr ⟨z1, 1, pl1, by decide, by decide, a3 c1, z2⟩
  rcases hcs with rfl | rfl | rfl | rfl
  · refine one (by omega) rfl (fun a a1 a2 => ?_)
    have q1 : a ≤ 7 := a2
    refine ⟨?_, ?_, fun _ => ?_, ?_⟩ <;> simp only [if_true, if_false, reduceIte, Nat.one_ne_zero, Nat.reduceEqDiff, Nat.reduceSub] at * <;> omega
  · refine one (by omega) rfl (fun a a1 a2 => ?_)
    have q0 : 1 ≤ a := a1
    have q1 : a ≤ 9 := a2
    refine ⟨?_, ?_, fun _ => ?_, ?_⟩ <;> simp only [if_true, if_false, reduceIte, Nat.one_ne_zero, Nat.reduceEqDiff, Nat.reduceSub] at * <;> omega
  · refine two (by omega) rfl (fun a b a1 a2 a3 => ?_)
    have q1 : a ≤ 7 := a2
    refine ⟨?_, ?_, fun _ => ?_, ?_⟩ <;> simp only [if_true, if_false, reduceIte, Nat.one_ne_zero, Nat.reduceEqDiff, Nat.reduceSub] at * <;> omega
  · refine two (by omega) rfl (fun a b a1 a2 a3 => ?_)
    have q1 : a ≤ 7 := a2
    refine ⟨?_, ?_, fun _ => ?_, ?_⟩ <;> simp only [if_true, if_false, reduceIte, Nat.one_ne_zero, Nat.reduceEqDiff, Nat.reduceSub] at * <;> omega
