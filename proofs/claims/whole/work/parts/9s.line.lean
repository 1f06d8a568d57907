/-! ===== a line of the plan: the class ===== -/
theorem yl_F {M : j_M} {f : Nat} {a b : Int32} (h : M 28 5 = nI f) (hf : f ≠ 0) (hf2 : f < 10) : xX8_readLine_58 a b M = some M ∧ xX8_readLine_79 a b M = some M ∧ xX8_readLine_124 a b M = some M := by
  have q : ¬ nI f = (0 : Int32) := by rw [e_eq0 (by omega)]; exact hf
  have e3 : xX8_readLine_124 a b M = some M := by
    unfold xX8_readLine_124
    rw [h, e_oli2, if_neg q]
  have e2 : xX8_readLine_79 a b M = some M := by
    unfold xX8_readLine_79
    rw [h, e_oli2, if_neg q, e3]
  refine ⟨?_, e2, e3⟩
  unfold xX8_readLine_58
  rw [h, e_oli2, if_neg q, e2]
theorem yl_124 {M : j_M} {a b : Int32} (h : M 28 5 = nI 0) : xX8_readLine_124 a b M = if a = (0 : Int32) then xX8_readAct (nI 0) M else xX8_readAct b M := by
  unfold xX8_readLine_124 xX8_readLine_141
  rw [h, e_oli2, if_pos (by decide)]
  have e : ∀ X : Option j_M, obv X (fun M1 => some M1) = X := by
    intro X
    cases X with
    | none => rfl
    | some x => exact e_obv2
  rw [e, e]
/-- a line: what the class does with it -/
def LNC (M A : j_M) (s : Nat) : Prop := (∀ x, x ≠ 28 → x ≠ 30 → A x = M x) ∧ (∀ j, j < 5 → A 28 j = M 28 j) ∧ (∀ j, j ≠ s → A 30 j = M 30 j)
theorem LNC_a {M A : j_M} {s : Nat} (h : AK M A s) : LNC M A s := ⟨h.2.1, fun j hj => h.2.2.1 j (by omega) (by omega) (by omega) (by omega), h.2.2.2⟩
theorem LNC_k {M A : j_M} {s : Nat} (h : FK M A) : LNC M A s := ⟨fun x a _ => h.1 x a, fun j hj => h.2 j (by omega) (by omega) (by omega), fun j _ => by rw [h.1 30 (by omega)]⟩
theorem LNC_t {M M' A : j_M} {s : Nat} (h : LNC M M' s) (h2 : LNC M' A s) : LNC M A s := ⟨fun x a b => by rw [h2.1 x a b, h.1 x a b], fun j a => by rw [h2.2.1 j a, h.2.1 j a], fun j a => by rw [h2.2.2 j a, h.2.2 j a]⟩
/-- a good line: both -/
def LNG (A B Mz : j_M) (T : Nat → Nat) (n p s : Nat) : Prop := ∃ (g : Nat → Nat) (p2 k' v' pl' nx' : Nat), p < p2 ∧ POK g ∧ CS A T n p2 ∧ A 28 7 = nI (s + 1) ∧ LEX T n p2 k' v' pl' nx' ∧ RT B T n 1 k' v' pl' nx' ∧ (∀ j, j < 4 → B 206 (4 * s + j) = nI (g j)) ∧ (∀ j, j < 4 * s → B 206 j = Mz 206 j) ∧ A 30 s = nI (pcv g)
def g4 (a b c d : Nat) : Nat → Nat := fun j => if j = 0 then a else if j = 1 then b else if j = 2 then c else d
theorem g4_p {a b c d : Nat} : g4 a b c d 0 = a ∧ g4 a b c d 1 = b ∧ g4 a b c d 2 = c ∧ g4 a b c d 3 = d := ⟨rfl, rfl, rfl, rfl⟩
theorem tkm_1 {v : Nat} (h : (1 ≤ v ∧ v ≤ 3) ∨ (6 ≤ v ∧ v < 13)) : tkm 1 1 v = v + 2 := by
  unfold tkm
  (repeat' split) <;> omega
/-- the line of a CPU, from its keyword on: both -/
theorem ln_cpu {Mc Mr : j_M} {T : Nat → Nat} {n p s u v pl : Nat} (h : CS Mc T n p) (hC : CST Mc) (h11 : Mc 28 11 = nI v) (hv : v = 1 ∨ v = 2 ∨ v = 3 ∨ v = 6) (hu : u < 6) (hc : Mc 28 7 = nI s) (hs2 : s < 24) (hr : RT Mr T n 1 1 v pl p) (hs : Mr 200 16 = nI s) (h1 : Mr 206 (4 * s + 1) = nI u) (h3 : Mr 206 (4 * s + 3) = nI 0) : ∃ A z B, xX8_readAct (nI u) Mc = some A ∧ LNC Mc A s ∧ xX12_ofCpu_44 (nI (v + 2)) Mr = some (nI z, B) ∧ HK Mr B ∧ ((z = 1 ∧ LNG A B Mr T n p s) ∨ FLB A B z) := by
  obtain ⟨k1, v1, pl1, n1, hx1⟩ := LEX_ex T n p
  obtain ⟨M3, e3, r3, g3⟩ := r_go (RT_w (i := 4 * s) (y := nI (v + 2)) hr) hx1
  have k3 : HK Mr M3 := HK_t HK_w (HK_g g3)
  have hs3 : M3 200 16 = nI s := by rw [k3.2 16 (by omega), hs]
  have m0 : M3 206 (4 * s) = nI (v + 2) := by rw [g3.1 206 (by omega), mw_at (by omega)]
  have mo : ∀ j, j ≠ 4 * s → M3 206 j = Mr 206 j := fun j hj => by rw [g3.1 206 (by omega), mw_ne hj]
  have st : xX12_ofCpu_44 (nI (v + 2)) Mr = eN (xX12_number (nI 2) (nI 0) (nI 7) M3) (fun M4 => if v = 1 ∨ v = 6 then eS M4 else eN (xX12_number (nI 3) (nI 0) (nI 9999) M4) eS) := by
    unfold xX12_ofCpu_44 eN
    rw [hs, e_oli2, e_mul, e_gd (by omega) (by omega), e_ix2 (by omega), e_oml2, e3, e_obv2]
    simp (disch := omega) only [e_eq]
    congr 1
    funext v5 M4
    by_cases c0 : v5 = 0
    · rw [if_pos c0, if_pos c0]
    · rw [if_neg c0, if_neg c0]
      by_cases c1 : v = 1
      · rw [if_pos (show v + 2 = 3 by omega), if_pos (show v = 1 ∨ v = 6 by omega)]
        rfl
      · rw [if_neg (show ¬ v + 2 = 3 by omega)]
        by_cases c6 : v = 6
        · rw [if_pos (show v + 2 = 8 by omega), if_pos (show v = 1 ∨ v = 6 by omega)]
          rfl
        · rw [if_neg (show ¬ v + 2 = 8 by omega), if_neg (show ¬ (v = 1 ∨ v = 6) by omega)]
          rfl
  have hw : wlo v = 0 ∧ whi v = 7 := by rcases hv with rfl | rfl | rfl | rfl <;> decide
  by_cases c1 : v = 1 ∨ v = 6
  · have hse : wse v = 0 := by rcases c1 with rfl | rfl <;> rfl
    obtain ⟨A, z, B, eA, kA, eB, kB, hz⟩ := one_both (u := u) (sl := 2) h hC h11 (by omega) hse (by omega) hc (by omega) hx1 r3 hs3 (by omega) (by omega)
    rw [hw.1, hw.2] at eB
    refine ⟨A, z, B, eA, LNC_a kA, ?_, HK_t k3 kB, ?_⟩
    · rw [st, ← eB]
      simp only [if_pos c1]
    · rcases hz with ⟨z1, a, p2, k', v', pl', nx', q1, q2, q3, q4, q5, q6, q7, q8, q9⟩ | hz
      · refine Or.inl ⟨z1, g4 (v + 2) u a 0, p2, k', v', pl', nx', q1, ?_, q4, kA.1, q5, q6, fun j hj => ?_, fun j hj => ?_, ?_⟩
        · unfold POK
          simp only [g4_p.1, g4_p.2.1, g4_p.2.2.1, g4_p.2.2.2]
          omega
        · have hj4 : j = 0 ∨ j = 1 ∨ j = 2 ∨ j = 3 := by omega
          rcases hj4 with rfl | rfl | rfl | rfl
          · rw [Nat.add_zero, q8 _ (by omega), m0]; rfl
          · rw [q8 _ (by omega), mo _ (by omega), h1]; rfl
          · rw [q7]; rfl
          · rw [q8 _ (by omega), mo _ (by omega), h3]; rfl
        · rw [q8 _ (by omega), mo _ (by omega)]
        · rw [q9 (by omega)]
          unfold pcv
          simp only [g4_p.1, g4_p.2.1, g4_p.2.2.1, g4_p.2.2.2]
          rw [if_pos (by omega), if_neg (by omega), show v + 2 - 2 = v by omega]
      · exact Or.inr hz
  · have hse : wse v = 9999 + 1 := by
      have : v = 2 ∨ v = 3 := by omega
      rcases this with rfl | rfl <;> rfl
    obtain ⟨A, z, B, eA, kA, eB, kB, hz⟩ := two_both (u := u) (sl := 2) h hC h11 (by omega) hse (by omega) hc (by omega) hx1 r3 hs3 (by omega) (by omega)
    rw [hw.1, hw.2] at eB
    refine ⟨A, z, B, eA, LNC_a kA, ?_, HK_t k3 kB, ?_⟩
    · rw [st, ← eB]
      simp only [if_neg c1]
    · rcases hz with ⟨z1, a, b, p2, k', v', pl', nx', q1, q2, q3, q3', q4, q5, q6, q7, q7', q8, q9⟩ | hz
      · refine Or.inl ⟨z1, g4 (v + 2) u a b, p2, k', v', pl', nx', q1, ?_, q4, kA.1, q5, q6, fun j hj => ?_, fun j hj => ?_, ?_⟩
        · unfold POK
          simp only [g4_p.1, g4_p.2.1, g4_p.2.2.1, g4_p.2.2.2]
          omega
        · have hj4 : j = 0 ∨ j = 1 ∨ j = 2 ∨ j = 3 := by omega
          rcases hj4 with rfl | rfl | rfl | rfl
          · rw [Nat.add_zero, q8 _ (by omega) (by omega), m0]; rfl
          · rw [q8 _ (by omega) (by omega), mo _ (by omega), h1]; rfl
          · rw [q7]; rfl
          · rw [q7']; rfl
        · rw [q8 _ (by omega) (by omega), mo _ (by omega)]
        · rw [q9 (by omega)]
          unfold pcv
          simp only [g4_p.1, g4_p.2.1, g4_p.2.2.1, g4_p.2.2.2]
          rw [if_pos (by omega), if_pos (by omega), show v + 2 - 2 = v by omega]
      · exact Or.inr hz
/-- any other line, from its keyword on: both -/
theorem ln_oth {Mc Mr : j_M} {T : Nat → Nat} {n p s v pl : Nat} (h : CS Mc T n p) (hC : CST Mc) (h11 : Mc 28 11 = nI v) (hv : 7 ≤ v) (hv2 : v < 13) (hc : Mc 28 7 = nI s) (hs2 : s < 24) (hr : RT Mr T n 1 1 v pl p) (hs : Mr 200 16 = nI s) (h2 : Mr 206 (4 * s + 2) = nI 0) (h3 : Mr 206 (4 * s + 3) = nI 0) : ∃ A z B, xX8_readAct (nI 0) Mc = some A ∧ LNC Mc A s ∧ xX12_aLine Mr = some (nI z, B) ∧ HK Mr B ∧ ((z = 1 ∧ LNG A B Mr T n p s) ∨ FLB A B z) := by
  obtain ⟨k1, v1, pl1, n1, hx1⟩ := LEX_ex T n p
  obtain ⟨M3, e3, r3, g3⟩ := r_go (RT_w (i := 4 * s) (y := nI (v + 2)) hr) hx1
  have k3 : HK Mr M3 := HK_t HK_w (HK_g g3)
  have hs3 : M3 200 16 = nI s := by rw [k3.2 16 (by omega), hs]
  have m0 : M3 206 (4 * s) = nI (v + 2) := by rw [g3.1 206 (by omega), mw_at (by omega)]
  have mo : ∀ j, j ≠ 4 * s → M3 206 j = Mr 206 j := fun j hj => by rw [g3.1 206 (by omega), mw_ne hj]
  have t1 : Mr 200 13 = nI (v + 2) := by rw [hr.2.2.2.2.2.1, tkm_1 (by omega)]
  have hwt : (v ≤ 8 → whi v = 50) ∧ (v = 9 → whi v = 99) ∧ (v = 12 → whi v = 3) ∧ (v = 10 ∨ v = 11 → whi v = 60) ∧ (v = 12 → wlo v = 0) ∧ (v < 12 → wlo v = 1) ∧ (v = 11 → wse v = 2 + 1) ∧ (v ≠ 11 → wse v = 0) := by
    have : v = 7 ∨ v = 8 ∨ v = 9 ∨ v = 10 ∨ v = 11 ∨ v = 12 := by omega
    rcases this with rfl | rfl | rfl | rfl | rfl | rfl <;> decide
  have e82 : ∀ lo hi : Nat, xX12_aLine_82 (nI (v + 2)) (nI hi) (nI 1) (nI lo) M3 = eN (xX12_number (nI 1) (nI lo) (nI hi) M3) (fun M4 => if v = 11 then eN (xX12_number (nI 2) (nI 0) (nI 2) M4) eS else eS M4) := by
    intro lo hi
    unfold xX12_aLine_82 eN
    simp (disch := omega) only [e_eq]
    congr 1
    funext v5 M4
    by_cases c0 : v5 = 0
    · rw [if_pos c0, if_pos c0]
    · rw [if_neg c0, if_neg c0]
      by_cases c1 : v = 11
      · rw [if_pos (show v + 2 = 13 by omega), if_pos c1]
        rfl
      · rw [if_neg (show ¬ v + 2 = 13 by omega), if_neg c1]
        rfl
  have e68 : ∀ hi : Nat, xX12_aLine_68 (nI (v + 2)) (nI hi) M3 = xX12_aLine_82 (nI (v + 2)) (nI hi) (nI 1) (nI (wlo v)) M3 := by
    intro hi
    unfold xX12_aLine_68
    simp (disch := omega) only [e_eq]
    by_cases c : v = 12
    · rw [if_pos (show v + 2 = 14 by omega), hwt.2.2.2.2.1 c]
    · rw [if_neg (show ¬ v + 2 = 14 by omega), hwt.2.2.2.2.2.1 (by omega)]
  have st : xX12_aLine Mr = eN (xX12_number (nI 1) (nI (wlo v)) (nI (whi v)) M3) (fun M4 => if v = 11 then eN (xX12_number (nI 2) (nI 0) (nI 2) M4) eS else eS M4) := by
    unfold xX12_aLine
    rw [t1, e_oli2, if_neg (by rw [e_eq (by omega) (by omega)]; omega), e_oli2, hs, e_oli2, e_mul, e_gd (by omega) (by omega), e_ix2 (by omega), e_oml2, e3, e_obv2]
    simp (disch := omega) only [e_eq, e_lt]
    rw [e68, e68, e68, e68, ← e82]
    by_cases c1 : v ≤ 8
    · rw [if_neg (show ¬ 10 < v + 2 by omega), hwt.1 c1]
    · rw [if_pos (show 10 < v + 2 by omega)]
      by_cases c2 : v = 9
      · rw [if_pos (show v + 2 = 11 by omega), hwt.2.1 c2]
      · rw [if_neg (show ¬ v + 2 = 11 by omega)]
        by_cases c3 : v = 12
        · rw [if_pos (show v + 2 = 14 by omega), hwt.2.2.1 c3]
        · rw [if_neg (show ¬ v + 2 = 14 by omega), hwt.2.2.2.1 (by omega)]
  by_cases c1 : v = 11
  · obtain ⟨A, z, B, eA, kA, eB, kB, hz⟩ := two_both (u := 0) (sl := 1) h hC h11 (by omega) (hwt.2.2.2.2.2.2.1 c1) (by omega) hc (by omega) hx1 r3 hs3 (by omega) (by omega)
    refine ⟨A, z, B, eA, LNC_a kA, ?_, HK_t k3 kB, ?_⟩
    · rw [st, ← eB]
      simp only [if_pos c1]
    · rcases hz with ⟨z1, a, b, p2, k', v', pl', nx', q1, q2, q3, q3', q4, q5, q6, q7, q7', q8, q9⟩ | hz
      · rw [hwt.2.2.2.1 (by omega)] at q3
        rw [hwt.2.2.2.2.2.1 (by omega)] at q2
        refine Or.inl ⟨z1, g4 (v + 2) a b 0, p2, k', v', pl', nx', q1, ?_, q4, kA.1, q5, q6, fun j hj => ?_, fun j hj => ?_, ?_⟩
        · unfold POK
          simp only [g4_p.1, g4_p.2.1, g4_p.2.2.1, g4_p.2.2.2]
          omega
        · have hj4 : j = 0 ∨ j = 1 ∨ j = 2 ∨ j = 3 := by omega
          rcases hj4 with rfl | rfl | rfl | rfl
          · rw [Nat.add_zero, q8 _ (by omega) (by omega), m0]; rfl
          · rw [q7]; rfl
          · rw [q7']; rfl
          · rw [q8 _ (by omega) (by omega), mo _ (by omega), h3]; rfl
        · rw [q8 _ (by omega) (by omega), mo _ (by omega)]
        · rw [q9 (by omega)]
          unfold pcv
          simp only [g4_p.1, g4_p.2.1, g4_p.2.2.1, g4_p.2.2.2]
          rw [if_neg (by omega), if_pos (by omega), show v + 2 - 2 = v by omega, Nat.mul_zero, Nat.add_zero]
      · exact Or.inr hz
  · obtain ⟨A, z, B, eA, kA, eB, kB, hz⟩ := one_both (u := 0) (sl := 1) h hC h11 (by omega) (hwt.2.2.2.2.2.2.2 c1) (by omega) hc (by omega) hx1 r3 hs3 (by omega) (by omega)
    refine ⟨A, z, B, eA, LNC_a kA, ?_, HK_t k3 kB, ?_⟩
    · rw [st, ← eB]
      simp only [if_neg c1]
    · rcases hz with ⟨z1, a, p2, k', v', pl', nx', q1, q2, q3, q4, q5, q6, q7, q8, q9⟩ | hz
      · refine Or.inl ⟨z1, g4 (v + 2) a 0 0, p2, k', v', pl', nx', q1, ?_, q4, kA.1, q5, q6, fun j hj => ?_, fun j hj => ?_, ?_⟩
        · unfold POK
          simp only [g4_p.1, g4_p.2.1, g4_p.2.2.1, g4_p.2.2.2]
          obtain ⟨w1, w2, w3, w4, w5, w6, _⟩ := hwt
          have : v = 7 ∨ v = 8 ∨ v = 9 ∨ v = 10 ∨ v = 12 := by omega
          rcases this with rfl | rfl | rfl | rfl | rfl
          · rw [w1 (by omega)] at q3; rw [w6 (by omega)] at q2; omega
          · rw [w1 (by omega)] at q3; rw [w6 (by omega)] at q2; omega
          · rw [w2 (by omega)] at q3; rw [w6 (by omega)] at q2; omega
          · rw [w4 (by omega)] at q3; rw [w6 (by omega)] at q2; omega
          · rw [w3 (by omega)] at q3; omega
        · have hj4 : j = 0 ∨ j = 1 ∨ j = 2 ∨ j = 3 := by omega
          rcases hj4 with rfl | rfl | rfl | rfl
          · rw [Nat.add_zero, q8 _ (by omega), m0]; rfl
          · rw [q7]; rfl
          · rw [q8 _ (by omega), mo _ (by omega), h2]; rfl
          · rw [q8 _ (by omega), mo _ (by omega), h3]; rfl
        · rw [q8 _ (by omega), mo _ (by omega)]
        · rw [q9 (by omega)]
          unfold pcv
          simp only [g4_p.1, g4_p.2.1, g4_p.2.2.1, g4_p.2.2.2]
          rw [if_neg (by omega), if_neg (by omega), show v + 2 - 2 = v by omega, Nat.mul_zero, Nat.add_zero]
      · exact Or.inr hz
