/-! ===== a line's numbers: the reference ===== -/
def eN (X : Option (Int32 × j_M)) (K : j_M → Option (Int32 × j_M)) : Option (Int32 × j_M) := obi X fun v M => (if v = (0 : Int32) then some ((nI 0), M) else K M)
def eS (M : j_M) : Option (Int32 × j_M) := obi (xX12_need (nI 159) M) fun v2 M1 => (if v2 = (0 : Int32) then some ((nI 0), M1) else some ((nI 1), M1))
theorem r_eS {M : j_M} {T : Nat → Nat} {n f k v pl nx k' v' pl' nx' : Nat} (h : RT M T n f k v pl nx) (hv : k = 1 → v < 13) (hx : LEX T n nx k' v' pl' nx') : ∃ z M', eS M = some (nI z, M') ∧ GK M M' ∧ (k = 3 → z = 1 ∧ RT M' T n f k' v' pl' nx') ∧ (k ≠ 3 → z = 0 ∧ RF M' 1 pl) := by
  obtain ⟨d_a, d_b⟩ := r_need (t := 159) h hv hx (by omega)
  have t9 := (tkm_s (f := f) hv).1
  unfold eS
  by_cases c : k = 3
  · obtain ⟨M6, e6, r6, g6⟩ := d_a (t9 ▸ c)
    rw [e6, e_obi2, if_neg (by decide)]
    exact ⟨1, M6, rfl, g6, fun _ => ⟨rfl, r6⟩, fun q => absurd c q⟩
  · obtain ⟨M6, e6, r6, g6⟩ := d_b (fun q => c (t9 ▸ q))
    rw [e6, e_obi2, if_pos (by decide)]
    exact ⟨0, M6, rfl, g6, fun q => absurd q c, fun _ => ⟨rfl, r6⟩⟩
/-- one number and the semicolon -/
theorem r_num1 {M : j_M} {T : Nat → Nat} {n f s sl lo hi k1 v1 pl1 n1 k2 v2 pl2 n2 k3 v3 pl3 n3 : Nat} (h : RT M T n f k1 v1 pl1 n1) (b1 : k1 = 1 → 1 ≤ v1 ∧ v1 < 13) (b1' : k1 = 2 → v1 < 10000) (b2 : k2 = 1 → 1 ≤ v2 ∧ v2 < 13) (hs : M 200 16 = nI s) (hs2 : s < 400) (hsl : sl < 4) (hlo : lo < 20000) (hhi : hi < 20000) (hx2 : LEX T n n1 k2 v2 pl2 n2) (hx3 : LEX T n n2 k3 v3 pl3 n3) : ∃ z M', eN (xX12_number (nI sl) (nI lo) (nI hi) M) eS = some (nI z, M') ∧ HK M M' ∧ (k1 = 2 → lo ≤ v1 → v1 ≤ hi → (k2 = 3 → z = 1 ∧ RT M' T n f k3 v3 pl3 n3 ∧ M' 206 (4 * s + sl) = nI v1 ∧ (∀ j, j ≠ 4 * s + sl → M' 206 j = M 206 j)) ∧ (k2 ≠ 3 → z = 0 ∧ RF M' 1 pl2)) ∧ (k1 = 2 → ¬ (lo ≤ v1 ∧ v1 ≤ hi) → z = 0 ∧ RF M' 2 pl1) ∧ (k1 ≠ 2 → z = 0 ∧ RF M' 1 pl1) := by
  obtain ⟨n_a, n_b, n_c⟩ := r_number (sl := sl) (lo := lo) (hi := hi) h b1 b1' hx2 hs hs2 hsl hlo hhi
  unfold eN
  by_cases c1 : k1 = 2
  · by_cases c2 : lo ≤ v1 ∧ v1 ≤ hi
    · obtain ⟨M5, e5, r5, k5, p1, p2⟩ := n_a c1 c2.1 c2.2
      obtain ⟨z, M6, e6, g6, w1, w2⟩ := r_eS r5 (fun q => (b2 q).2) hx3
      rw [e5, e_obi2, if_neg (by decide), e6]
      refine ⟨z, M6, rfl, HK_t k5 (HK_g g6), fun _ _ _ => ⟨fun q => ⟨(w1 q).1, (w1 q).2, ?_, fun j hj => ?_⟩, w2⟩, fun _ q => absurd c2 q, fun q => absurd c1 q⟩
      · rw [g6.1 206 (by omega), p1]
      · rw [g6.1 206 (by omega), p2 _ hj]
    · obtain ⟨M5, e5, r5, k5⟩ := n_b c1 c2
      rw [e5, e_obi2, if_pos (by decide)]
      exact ⟨0, M5, rfl, HK_g k5, fun _ x y => absurd ⟨x, y⟩ c2, fun _ _ => ⟨rfl, r5⟩, fun q => absurd c1 q⟩
  · obtain ⟨M5, e5, r5, k5⟩ := n_c c1
    rw [e5, e_obi2, if_pos (by decide)]
    exact ⟨0, M5, rfl, HK_g k5, fun q => absurd q c1, fun q => absurd q c1, fun _ => ⟨rfl, r5⟩⟩
def FLB (Mc' Mr' : j_M) (z : Nat) : Prop := z = 0 ∧ ∃ f q, f ≠ 0 ∧ f < 10 ∧ CF Mc' f q ∧ RF Mr' f q
/-- a keyword's one number: both -/
theorem one_both {Mc Mr : j_M} {T : Nat → Nat} {n p u v c s sl f k1 v1 pl1 n1 : Nat} (h : CS Mc T n p) (hC : CST Mc) (h11 : Mc 28 11 = nI v) (hv : v < 13) (hse : wse v = 0) (hu : u < 64) (hc : Mc 28 7 = nI c) (hc2 : c < 1000000000) (hx1 : LEX T n p k1 v1 pl1 n1) (hr : RT Mr T n f k1 v1 pl1 n1) (hs : Mr 200 16 = nI s) (hs2 : s < 400) (hsl : sl < 4) : ∃ Mc' z Mr', xX8_readAct (nI u) Mc = some Mc' ∧ AK Mc Mc' c ∧ eN (xX12_number (nI sl) (nI (wlo v)) (nI (whi v)) Mr) eS = some (nI z, Mr') ∧ HK Mr Mr' ∧ ((z = 1 ∧ ∃ a p2 k' v' pl' nx', p < p2 ∧ wlo v ≤ a ∧ a ≤ whi v ∧ CS Mc' T n p2 ∧ LEX T n p2 k' v' pl' nx' ∧ RT Mr' T n f k' v' pl' nx' ∧ Mr' 206 (4 * s + sl) = nI a ∧ (∀ j, j ≠ 4 * s + sl → Mr' 206 j = Mr 206 j) ∧ (c < 200 → Mc' 30 c = nI (v + 16 * a + 2048 * 0 + 33554432 * u))) ∨ FLB Mc' Mr' z) := by
  obtain ⟨k2, v2, pl2, n2, hx2⟩ := LEX_ex T n n1
  obtain ⟨k3, v3, pl3, n3, hx3⟩ := LEX_ex T n n2
  have b1 := LEX_b hx1 h.2.2.2.1
  have b2 := LEX_b hx2 b1.2.2.2.1
  have l1 : k1 = 2 → p < n1 := fun q => Nat.lt_of_le_of_lt b1.1 (b1.2.2.2.2.1 (by rw [q]; decide))
  have l2 : n1 ≤ n2 := Nat.le_trans b2.1 b2.2.2.1
  have q1 := b1.2.2.2.2.2.2.2.1
  have q2 := b1.2.2.2.2.2.2.1
  have q3 := b2.2.2.2.2.2.2.2.1
  clear b1 b2
  obtain ⟨t1, t2, t3, t4, t5, t6⟩ := w_tab v hv
  obtain ⟨A, eA, kA, a1, a2, a3⟩ := x_act1 (u := u) h hC h11 hv hse hu hc hc2 hx1 hx2
  obtain ⟨z, B, eB, kB, d1, d2, d3⟩ := r_num1 (lo := wlo v) (hi := whi v) hr q1 q2 q3 hs hs2 hsl (by omega) (by omega) hx2 hx3
  refine ⟨A, z, B, eA, kA, eB, kB, ?_⟩
  by_cases c1 : k1 = 2
  · by_cases c2 : wlo v ≤ v1 ∧ v1 ≤ whi v
    · by_cases c3 : k2 = 3
      · obtain ⟨y1, y2⟩ := (a1 c1 c2.1 c2.2).1 c3
        obtain ⟨z1, z2, z3, z4⟩ := (d1 c1 c2.1 c2.2).1 c3
        exact Or.inl ⟨z1, v1, n2, k3, v3, pl3, n3, Nat.lt_of_lt_of_le (l1 c1) l2, c2.1, c2.2, y1, hx3, z2, z3, z4, y2⟩
      · obtain ⟨z1, z2⟩ := (d1 c1 c2.1 c2.2).2 c3
        exact Or.inr ⟨z1, 1, pl2, by decide, by decide, (a1 c1 c2.1 c2.2).2 c3, z2⟩
    · obtain ⟨z1, z2⟩ := d2 c1 c2
      exact Or.inr ⟨z1, 2, pl1, by decide, by decide, a2 c1 c2, z2⟩
  · obtain ⟨z1, z2⟩ := d3 c1
    exact Or.inr ⟨z1, 1, pl1, by decide, by decide, a3 c1, z2⟩
/-- a keyword's two numbers: both -/
theorem two_both {Mc Mr : j_M} {T : Nat → Nat} {n p u v w c s sl f k1 v1 pl1 n1 : Nat} (h : CS Mc T n p) (hC : CST Mc) (h11 : Mc 28 11 = nI v) (hv : v < 13) (hse : wse v = w + 1) (hu : u < 64) (hc : Mc 28 7 = nI c) (hc2 : c < 1000000000) (hx1 : LEX T n p k1 v1 pl1 n1) (hr : RT Mr T n f k1 v1 pl1 n1) (hs : Mr 200 16 = nI s) (hs2 : s < 400) (hsl : sl < 3) : ∃ Mc' z Mr', xX8_readAct (nI u) Mc = some Mc' ∧ AK Mc Mc' c ∧ eN (xX12_number (nI sl) (nI (wlo v)) (nI (whi v)) Mr) (fun M5 => eN (xX12_number (nI (sl + 1)) (nI 0) (nI w) M5) eS) = some (nI z, Mr') ∧ HK Mr Mr' ∧ ((z = 1 ∧ ∃ a b p2 k' v' pl' nx', p < p2 ∧ wlo v ≤ a ∧ a ≤ whi v ∧ b ≤ w ∧ CS Mc' T n p2 ∧ LEX T n p2 k' v' pl' nx' ∧ RT Mr' T n f k' v' pl' nx' ∧ Mr' 206 (4 * s + sl) = nI a ∧ Mr' 206 (4 * s + (sl + 1)) = nI b ∧ (∀ j, j ≠ 4 * s + sl → j ≠ 4 * s + (sl + 1) → Mr' 206 j = Mr 206 j) ∧ (c < 200 → Mc' 30 c = nI (v + 16 * a + 2048 * b + 33554432 * u))) ∨ FLB Mc' Mr' z) := by
  obtain ⟨k2, v2, pl2, n2, hx2⟩ := LEX_ex T n n1
  obtain ⟨k3, v3, pl3, n3, hx3⟩ := LEX_ex T n n2
  obtain ⟨k4, v4, pl4, n4, hx4⟩ := LEX_ex T n n3
  have b1 := LEX_b hx1 h.2.2.2.1
  have b2 := LEX_b hx2 b1.2.2.2.1
  have b3 := LEX_b hx3 b2.2.2.2.1
  have l1 : k1 = 2 → p < n1 := fun q => Nat.lt_of_le_of_lt b1.1 (b1.2.2.2.2.1 (by rw [q]; decide))
  have l2 : n1 ≤ n2 := Nat.le_trans b2.1 b2.2.2.1
  have l3 : n2 ≤ n3 := Nat.le_trans b3.1 b3.2.2.1
  have q1 := b1.2.2.2.2.2.2.2.1
  have q2 := b1.2.2.2.2.2.2.1
  have q3 := b2.2.2.2.2.2.2.2.1
  have q4 := b2.2.2.2.2.2.2.1
  have q5 := b3.2.2.2.2.2.2.2.1
  clear b1 b2 b3
  obtain ⟨t1, t2, t3, t4, t5, t6⟩ := w_tab v hv
  obtain ⟨A, eA, kA, a1, a2, a3⟩ := x_act2 (u := u) h hC h11 hv hse hu hc hc2 hx1 hx2 hx3
  obtain ⟨n_a, n_b, n_c⟩ := r_number (sl := sl) (lo := wlo v) (hi := whi v) hr q1 q2 hx2 hs hs2 (by omega) (by omega) (by omega)
  rw [eA]
  by_cases c1 : k1 = 2
  · by_cases c2 : wlo v ≤ v1 ∧ v1 ≤ whi v
    · obtain ⟨x1, x2, x3⟩ := a1 c1 c2.1 c2.2
      obtain ⟨M5, e5, r5, k5, p1, p2⟩ := n_a c1 c2.1 c2.2
      obtain ⟨z, B, eB, kB, d1, d2, d3⟩ := r_num1 (sl := sl + 1) (lo := 0) (hi := w) r5 q3 q4 q5 (by rw [k5.2 16 (by omega), hs]) hs2 (by omega) (by omega) (by omega) hx3 hx4
      refine ⟨A, z, B, rfl, kA, ?_, HK_t k5 kB, ?_⟩
      · rw [eN, e5, e_obi2, if_neg (by decide), eB]
      · by_cases c3 : k2 = 2
        · by_cases c4 : v2 ≤ w
          · by_cases c5 : k3 = 3
            · obtain ⟨u1, u2⟩ := (x1 c3 c4).1 c5
              obtain ⟨z1, z2, z3, z4⟩ := (d1 c3 (by omega) c4).1 c5
              exact Or.inl ⟨z1, v1, v2, n3, k4, v4, pl4, n4, Nat.lt_of_lt_of_le (l1 c1) (Nat.le_trans l2 l3), c2.1, c2.2, c4, u1, hx4, z2, by rw [z4 _ (by omega), p1], z3, fun j j1 j2 => by rw [z4 j j2, p2 j j1], u2⟩
            · obtain ⟨z1, z2⟩ := (d1 c3 (by omega) c4).2 c5
              exact Or.inr ⟨z1, 1, pl3, by decide, by decide, (x1 c3 c4).2 c5, z2⟩
          · obtain ⟨z1, z2⟩ := d2 c3 (fun q => c4 q.2)
            exact Or.inr ⟨z1, 2, pl2, by decide, by decide, x2 c3 c4, z2⟩
        · obtain ⟨z1, z2⟩ := d3 c3
          exact Or.inr ⟨z1, 1, pl2, by decide, by decide, x3 c3, z2⟩
    · obtain ⟨M5, e5, r5, k5⟩ := n_b c1 c2
      refine ⟨A, 0, M5, rfl, kA, ?_, HK_g k5, Or.inr ⟨rfl, 2, pl1, by decide, by decide, a2 c1 c2, r5⟩⟩
      rw [eN, e5, e_obi2, if_pos (by decide)]
  · obtain ⟨M5, e5, r5, k5⟩ := n_c c1
    refine ⟨A, 0, M5, rfl, kA, ?_, HK_g k5, Or.inr ⟨rfl, 1, pl1, by decide, by decide, a3 c1, r5⟩⟩
    rw [eN, e5, e_obi2, if_pos (by decide)]
