/-! ===== the reference sorts ===== -/
def ec6 (k v : Nat) : Int32 := if k % 9 = 6 then oI v else nI v
theorem r6_r {N : j_M} {S : a_S} {k : Nat} (h : k < 2160) : RS N S 201 (586 + k) = ec6 k (S 586 k) := by
  unfold ec6
  by_cases c : k % 9 = 6
  · rw [if_pos c, so_586 h c]
  · rw [if_neg c, sr_586 h c]
theorem r6_w {N : j_M} {S : a_S} {k v : Nat} (h : k < 2160) : mw (RS N S) 201 (586 + k) (ec6 k v) = RS N (sw S 586 k v) := by
  unfold ec6
  by_cases c : k % 9 = 6
  · rw [if_pos c, sp_586 h c]
  · rw [if_neg c, st_586 h c]
theorem ec6_m {k k' v : Nat} (h : k % 9 = k' % 9) : ec6 k v = ec6 k' v := by
  unfold ec6
  rw [h]
theorem ec6_eq {k a b : Nat} (ha : a < 20000) (hb : b < 20000) : (ec6 k a = ec6 k b) ↔ a = b := by
  unfold ec6
  constructor
  · intro h
    by_cases c : k % 9 = 6
    · rw [if_pos c, if_pos c] at h
      rcases a with _ | a <;> rcases b with _ | b
      · rfl
      · have h2 : (-1 : Int32) = nI b := h
        exact absurd h2.symm (nI_m1 (by omega))
      · have h2 : nI a = (-1 : Int32) := h
        exact absurd h2 (nI_m1 (by omega))
      · have h2 : nI a = nI b := h
        rw [e_eq (by omega) (by omega)] at h2
        omega
    · rw [if_neg c, if_neg c, e_eq (by omega) (by omega)] at h
      exact h
  · intro h
    rw [h]
theorem ec6_le {k a b : Nat} (ha : a < 20000) (hb : b < 20000) : (ec6 k a ≤ ec6 k b) ↔ a ≤ b := by
  unfold ec6
  by_cases c : k % 9 = 6
  · rw [if_pos c, if_pos c]
    rcases a with _ | a <;> rcases b with _ | b
    · exact ⟨fun _ => Nat.le_refl _, fun _ => Int32.le_refl _⟩
    · constructor
      · intro _; omega
      · intro _
        show (-1 : Int32) ≤ nI b
        rw [Int32.le_iff_toInt_le, nI_toInt (by omega), show (-1 : Int32).toInt = -1 by decide]
        omega
    · constructor
      · intro h
        have h2 : nI a ≤ (-1 : Int32) := h
        rw [Int32.le_iff_toInt_le, nI_toInt (by omega), show (-1 : Int32).toInt = -1 by decide] at h2
        omega
      · intro h; omega
    · show nI a ≤ nI b ↔ _
      rw [e_le (by omega) (by omega)]
      omega
  · rw [if_neg c, if_neg c, e_le (by omega) (by omega)]
theorem r_of6 {N : j_M} {S : a_S} {i f : Nat} (hi : i < 240) (hf : f < 9) : xX12_of (nI i) (nI f) (RS N S) = some (ec6 f (fd S i f), RS N S) := by
  unfold xX12_of
  rw [e_mul, e_add, e_add, e_gd (by omega) (by omega), e_ix2 (by omega), Nat.add_assoc, r6_r (by omega), e_oli2, ec6_m (k' := f) (by omega)]
  rfl
/-- the fields in their order, as one number -/
def lx (g : Nat → Nat) : Nat → Nat → Nat
  | 0, _ => 0
  | m + 1, j => g j * 16384 ^ m + lx g m (j + 1)
theorem lx_lt {g : Nat → Nat} (h : ∀ q, q < 9 → g q < 16384) : ∀ m j, j + m ≤ 9 → lx g m j < 16384 ^ m
  | 0, _, _ => by show 0 < 1; decide
  | m + 1, j, hj => by
    have e := lx_lt h m (j + 1) (by omega)
    have e2 := h j (by omega)
    have e3 : (g j + 1) * 16384 ^ m ≤ 16384 * 16384 ^ m := Nat.mul_le_mul_right _ (by omega)
    rw [Nat.add_mul, Nat.one_mul] at e3
    show g j * 16384 ^ m + lx g m (j + 1) < _
    rw [Nat.pow_succ, Nat.mul_comm (16384 ^ m) 16384]
    omega
def lk (g : Nat → Nat) : Nat := lx g 9 0
theorem lx_c {g g' : Nat → Nat} (h : ∀ q, q < 9 → g q = g' q) : ∀ m j, j + m ≤ 9 → lx g m j = lx g' m j
  | 0, _, _ => rfl
  | m + 1, j, hj => by
    show g j * 16384 ^ m + lx g m (j + 1) = g' j * 16384 ^ m + lx g' m (j + 1)
    rw [h j (by omega), lx_c h m (j + 1) (by omega)]
theorem gp_lk : gp lk := fun _ _ h => lx_c h 9 0 (by omega)
theorem fd_lt {S : a_S} (h : RG S) (i q : Nat) (hq : q < 9) : fd S i q < 16384 := by
  have g := g_f h i
  have hq9 : q = 0 ∨ q = 1 ∨ q = 2 ∨ q = 3 ∨ q = 4 ∨ q = 5 ∨ q = 6 ∨ q = 7 ∨ q = 8 := by omega
  rcases hq9 with rfl | rfl | rfl | rfl | rfl | rfl | rfl | rfl | rfl
  · show S 586 (9 * i) < 16384; omega
  · show S 586 (9 * i + 1) < 16384; omega
  · show S 586 (9 * i + 2) < 16384; omega
  · show S 586 (9 * i + 3) < 16384; omega
  · show S 586 (9 * i + 4) < 16384; omega
  · show S 586 (9 * i + 5) < 16384; omega
  · show S 586 (9 * i + 6) < 16384; omega
  · show S 586 (9 * i + 7) < 16384; omega
  · show S 586 (9 * i + 8) < 16384; omega
theorem r_beh2 {N : j_M} {S : a_S} {a b k : Nat} (hr : RG S) (ha : a < 240) (hb : b < 240) : ∀ (m j : Nat), j + m = 9 → xX12_isBehind_2 (k + m + 1) (nI a) (nI b) (nI j) (RS N S) = some (nI (if lx (fd S b) m j < lx (fd S a) m j then 1 else 0), RS N S)
  | 0, j, h => by
    rw [show k + 0 + 1 = k + 1 from rfl, xX12_isBehind_2.eq_2, if_pos (by rw [e_le (by omega) (by omega)]; omega)]
    rfl
  | m + 1, j, h => by
    have fa := fd_lt hr a j (by omega)
    have fb := fd_lt hr b j (by omega)
    have la := lx_lt (fun q hq => fd_lt hr a q hq) m (j + 1) (by omega)
    have lb := lx_lt (fun q hq => fd_lt hr b q hq) m (j + 1) (by omega)
    have ea : lx (fd S a) (m + 1) j = fd S a j * 16384 ^ m + lx (fd S a) m (j + 1) := rfl
    have eb : lx (fd S b) (m + 1) j = fd S b j * 16384 ^ m + lx (fd S b) m (j + 1) := rfl
    rw [show k + (m + 1) + 1 = (k + m + 1) + 1 by omega, xX12_isBehind_2.eq_2, if_neg (by rw [e_le (by omega) (by omega)]; omega), r_of6 ha (by omega), e_obi2, r_of6 hb (by omega), e_obi2, r_of6 ha (by omega), e_obi2, r_of6 hb (by omega), e_obi2, e_add, r_beh2 hr ha hb m (j + 1) (by omega), ea, eb]
    by_cases c : fd S a j = fd S b j
    · rw [if_pos ((ec6_eq (by omega) (by omega)).2 c), c]
      by_cases q : lx (fd S b) m (j + 1) < lx (fd S a) m (j + 1)
      · rw [if_pos q, if_pos (by omega)]
      · rw [if_neg q, if_neg (by omega)]
    · rw [if_neg (fun w => c ((ec6_eq (by omega) (by omega)).1 w))]
      by_cases q : fd S a j ≤ fd S b j
      · have e3 : (fd S a j + 1) * 16384 ^ m ≤ fd S b j * 16384 ^ m := Nat.mul_le_mul_right _ (by omega)
        rw [Nat.add_mul, Nat.one_mul] at e3
        rw [if_pos ((ec6_le (by omega) (by omega)).2 q), if_neg (by omega)]
      · have e3 : (fd S b j + 1) * 16384 ^ m ≤ fd S a j * 16384 ^ m := Nat.mul_le_mul_right _ (by omega)
        rw [Nat.add_mul, Nat.one_mul] at e3
        rw [if_neg (fun w => q ((ec6_le (by omega) (by omega)).1 w)), if_pos (by omega)]
theorem r_beh {N : j_M} {S : a_S} {a b : Nat} (hr : RG S) (ha : a < 240) (hb : b < 240) : xX12_isBehind (nI a) (nI b) (RS N S) = some (nI (if lk (fd S b) < lk (fd S a) then 1 else 0), RS N S) := by
  unfold xX12_isBehind
  rw [show fu = 999990 + 9 + 1 by unfold fu; omega]
  exact r_beh2 hr ha hb 9 0 (by omega)
def swq (S : a_S) (k f : Nat) : a_S := fun r x => if r = 586 then (if 9 * k ≤ x ∧ x < 9 * k + f then S 586 (x + 9) else if 9 * k + 9 ≤ x ∧ x < 9 * k + 9 + f then S 586 (x - 9) else S 586 x) else S r x
theorem r_swap2 {N : j_M} {S : a_S} {k n : Nat} (hk : k + 1 < 240) : ∀ (m f : Nat), f + m = 9 → xX12_swaps_2 (n + m + 1) (nI k) (nI (k + 1)) (nI f) (RS N (swq S k f)) = some (RS N (swp S k))
  | 0, f, h => by
    have : f = 9 := by omega
    subst this
    rw [show n + 0 + 1 = n + 1 from rfl, xX12_swaps_2.eq_2, if_pos (by decide)]
    rfl
  | m + 1, f, h => by
    have v1 : fd (swq S k f) k f = S 586 (9 * k + f) := by
      unfold fd swq
      rw [if_pos rfl, if_neg (by omega), if_neg (by omega)]
    have v2 : fd (swq S k f) (k + 1) f = S 586 (9 * (k + 1) + f) := by
      unfold fd swq
      rw [if_pos rfl, if_neg (by omega), if_neg (by omega)]
    have es : sw (sw (swq S k f) 586 (9 * k + f) (S 586 (9 * (k + 1) + f))) 586 (9 * (k + 1) + f) (S 586 (9 * k + f)) = swq S k (f + 1) := by
      funext r x
      unfold sw swq
      by_cases c : r = 586
      · subst c
        by_cases c1 : x = 9 * (k + 1) + f
        · rw [if_pos ⟨rfl, c1⟩, if_pos rfl, if_neg (by omega), if_pos (by omega), c1, show 9 * (k + 1) + f - 9 = 9 * k + f by omega]
        · rw [if_neg (fun q => c1 q.2)]
          by_cases c2 : x = 9 * k + f
          · rw [if_pos ⟨rfl, c2⟩, if_pos rfl, if_pos (by omega), c2, show 9 * k + f + 9 = 9 * (k + 1) + f by omega]
          · rw [if_neg (fun q => c2 q.2), if_pos rfl, if_pos rfl]
            by_cases c3 : 9 * k ≤ x ∧ x < 9 * k + f
            · rw [if_pos c3, if_pos (by omega)]
            · rw [if_neg c3, if_neg (show ¬ (9 * k ≤ x ∧ x < 9 * k + (f + 1)) by omega)]
              by_cases c4 : 9 * k + 9 ≤ x ∧ x < 9 * k + 9 + f
              · rw [if_pos c4, if_pos (by omega)]
              · rw [if_neg c4, if_neg (by omega)]
      · rw [if_neg (fun q => c q.1), if_neg (fun q => c q.1), if_neg c, if_neg c]
    rw [show n + (m + 1) + 1 = (n + m + 1) + 1 by omega, xX12_swaps_2.eq_2, if_neg (by rw [e_le (by omega) (by omega)]; omega), r_of6 (by omega) (by omega), e_obi2, r_of6 (by omega) (by omega), e_obi2, v1, v2, e_mul, e_add, e_add, e_gd (by omega) (by omega), e_ix2 (by omega), Nat.add_assoc, ec6_m (k := f) (k' := 9 * k + f) (by omega), r6_w (by omega), e_oml2, e_mul, e_add, e_add, e_gd (by omega) (by omega), e_ix2 (by omega), Nat.add_assoc, ec6_m (k := f) (k' := 9 * (k + 1) + f) (v := S 586 (9 * k + f)) (by omega), r6_w (by omega), e_oml2, e_add, es]
    exact r_swap2 hk m (f + 1) (by omega)
theorem r_swaps {N : j_M} {S : a_S} {k : Nat} (hk : k + 1 < 240) : xX12_swaps (nI k) (nI (k + 1)) (RS N S) = some (RS N (swp S k)) := by
  have e0 : swq S k 0 = S := by
    funext r x
    unfold swq
    by_cases c : r = 586
    · rw [if_pos c, if_neg (by omega), if_neg (by omega), c]
    · rw [if_neg c]
  have := r_swap2 (N := N) (S := S) (n := 999990) hk 9 0 (by omega)
  rw [e0] at this
  unfold xX12_swaps
  rw [show fu = 999990 + 9 + 1 by unfold fu; omega]
  exact this
def SK (S : a_S) (i p : Nat) : Prop := (∀ a b, a < b → b ≤ i → a ≠ p → b ≠ p → lk (fd S a) ≤ lk (fd S b)) ∧ (∀ b, p < b → b ≤ i → lk (fd S p) ≤ lk (fd S b))
theorem r_sort15 {N : j_M} {i n k : Nat} (hn : n ≤ 240) (hi : i < n) (K : Int32 → j_M → Option j_M) : ∀ (p : Nat) (S : a_S), p ≤ i → S 1 7 = n → RG S → SK S i p → ∃ S', xX12_sorts_15 K (k + p + 1) (nI i) (nI p) (RS N S) = K (nI (i + 1)) (RS N S') ∧ PRM S S' ∧ (∀ a b, a < b → b ≤ i → lk (fd S' a) ≤ lk (fd S' b)) := by
  intro p
  induction p with
  | zero =>
    intro S hp h7 hr hj
    refine ⟨S, ?_, PRM_r, fun a b h1 h2 => ?_⟩
    · rw [xX12_sorts_15.eq_2, if_pos (by decide), e_add]
    · by_cases c : a = 0
      · subst c; exact hj.2 b h1 h2
      · exact hj.1 a b h1 h2 c (by omega)
  | succ p ih =>
    intro S hp h7 hr hj
    have st : xX12_sorts_15 K (k + (p + 1) + 1) (nI i) (nI (p + 1)) (RS N S) = if lk (fd S (p + 1)) < lk (fd S p) then xX12_sorts_15 K (k + p + 1) (nI i) (nI p) (RS N (swp S p)) else K (nI (i + 1)) (RS N S) := by
      rw [show k + (p + 1) + 1 = (k + p + 1) + 1 by omega, xX12_sorts_15.eq_2, if_neg (by rw [e_le0 (by omega)]; omega), e_sub (by omega), show p + 1 - 1 = p by omega, r_beh hr (by omega) (by omega), e_obi2, r_swaps (by omega), e_obv2, nI_prm, e_add]
      by_cases c : lk (fd S (p + 1)) < lk (fd S p)
      · rw [if_pos c, if_pos c, if_neg (by decide)]
      · rw [if_neg c, if_neg c, if_pos (by decide)]
    rw [st]
    by_cases c : lk (fd S (p + 1)) < lk (fd S p)
    · rw [if_pos c]
      have ea := gp_lk _ _ (fun q hq => swp_a (S := S) (k := p) (j := q) hq)
      have eb := gp_lk _ _ (fun q hq => swp_b (S := S) (k := p) (j := q) hq)
      have eo : ∀ a, a ≠ p → a ≠ p + 1 → lk (fd (swp S p) a) = lk (fd S a) := fun a h1 h2 => gp_lk _ _ (fun q hq => swp_c hq h1 h2)
      have pm := PRM_swp (S := S) (k := p) (by omega)
      have hJ : SK (swp S p) i p := by
        refine ⟨fun a b h1 h2 h3 h4 => ?_, fun b h1 h2 => ?_⟩
        · by_cases ca : a = p + 1
          · subst ca
            rw [eb, eo b (by omega) (by omega)]
            exact hj.1 p b (by omega) h2 (by omega) (by omega)
          · by_cases cb : b = p + 1
            · subst cb
              rw [eb, eo a h3 ca]
              exact hj.1 a p (by omega) (by omega) (by omega) (by omega)
            · rw [eo a h3 ca, eo b h4 cb]
              exact hj.1 a b h1 h2 ca cb
        · rw [ea]
          by_cases cb : b = p + 1
          · subst cb
            rw [eb]
            omega
          · rw [eo b (by omega) cb]
            exact hj.2 b (by omega) h2
      obtain ⟨S', g1, g2, g3⟩ := ih (swp S p) (by omega) (by rw [swp_o (by omega)]; exact h7) (pm.2.2.2 hr) hJ
      exact ⟨S', g1, PRM_t pm g2, g3⟩
    · rw [if_neg c]
      refine ⟨S, rfl, PRM_r, fun a b h1 h2 => ?_⟩
      by_cases ca : a = p + 1
      · subst ca; exact hj.2 b h1 h2
      · by_cases cb : b = p + 1
        · subst cb
          by_cases cp : a = p
          · subst cp; omega
          · exact Nat.le_trans (hj.1 a p (by omega) (by omega) (by omega) (by omega)) (by omega)
        · exact hj.1 a b h1 h2 ca cb
theorem r_sort2 {N : j_M} {n k : Nat} (hn : n ≤ 240) : ∀ (m i : Nat) (S : a_S), i + m = n ∨ (m = 0 ∧ n ≤ i) → 1 ≤ i → i ≤ 1 ∨ i ≤ n → S 1 7 = n → RG S → (∀ a b, a < b → b < i → lk (fd S a) ≤ lk (fd S b)) → ∃ S', xX12_sorts_2 (k + m + 1) (nI i) (RS N S) = some (RS N S') ∧ PRM S S' ∧ (∀ a b, a < b → b < n → lk (fd S' a) ≤ lk (fd S' b)) := by
  intro m
  induction m with
  | zero =>
    intro i S h h1 h2 h7 hr hs
    refine ⟨S, ?_, PRM_r, fun a b q1 q2 => hs a b q1 (by omega)⟩
    rw [xX12_sorts_2.eq_2, e_gd (by omega) (by omega), e_ix2 (by omega), sr_1 (by omega), h7, e_oli2, if_pos (by rw [e_le (by omega) (by omega)]; omega)]
  | succ m ih =>
    intro i S h h1 h2 h7 hr hs
    obtain ⟨S1, g1, g2, g3⟩ := r_sort15 (N := N) (i := i) (n := n) (k := 999999 - i) hn (by omega) (xX12_sorts_2 (k + m + 1)) i S (Nat.le_refl _) h7 hr ⟨fun a b q1 q2 q3 q4 => hs a b q1 (by omega), fun b q1 q2 => by omega⟩
    have e7 : S1 1 7 = n := by rw [g2.1 1 7 (by omega)]; exact h7
    obtain ⟨S', g4, g5, g6⟩ := ih (i + 1) S1 (by omega) (by omega) (by omega) e7 (g2.2.2.2 hr) (fun a b q1 q2 => g3 a b q1 (by omega))
    refine ⟨S', ?_, PRM_t g2 g5, g6⟩
    rw [show 999999 - i + i + 1 = fu by unfold fu; omega] at g1
    rw [show k + (m + 1) + 1 = (k + m + 1) + 1 by omega, xX12_sorts_2.eq_2, e_gd (by omega) (by omega), e_ix2 (by omega), sr_1 (by omega), h7, e_oli2, if_neg (by rw [e_le (by omega) (by omega)]; omega), g1, g4]
/-- the reference's row is sorted -/
def SRL (S : a_S) : Prop := ∀ a b, a < b → b < S 1 7 → lk (fd S a) ≤ lk (fd S b)
theorem r_sorts {N : j_M} {S : a_S} (hi : INV S z0) : ∃ S', xX12_sorts (RS N S) = some (RS N S') ∧ PRM S S' ∧ SRL S' := by
  have hq := INV_q hi
  obtain ⟨S', g1, g2, g3⟩ := r_sort2 (N := N) (n := S 1 7) (k := 999999 - (S 1 7 - 1)) (by omega) (S 1 7 - 1) 1 S (by omega) (by omega) (by omega) rfl hi.1 (fun a b h1 h2 => by omega)
  refine ⟨S', ?_, g2, fun a b h1 h2 => g3 a b h1 (by rw [← g2.1 1 7 (by omega)]; exact h2)⟩
  unfold xX12_sorts
  rw [show 999999 - (S 1 7 - 1) + (S 1 7 - 1) + 1 = fu by unfold fu; omega] at g1
  exact g1
/-- one number, one message -/
theorem lk_in {S T : a_S} {i k : Nat} (h : RG S) (h' : RG T) (he : lk (fd S i) = lk (fd T k)) : ∀ j, j < 9 → fd S i j = fd T k j := by
  have key : ∀ (m j : Nat), j + m = 9 → lx (fd S i) m j = lx (fd T k) m j → ∀ q, j ≤ q → q < 9 → fd S i q = fd T k q := by
    intro m
    induction m with
    | zero => intro j hj _ q h1 h2; omega
    | succ m ih =>
      intro j hj he q h1 h2
      have la := lx_lt (fun q hq => fd_lt h i q hq) m (j + 1) (by omega)
      have lb := lx_lt (fun q hq => fd_lt h' k q hq) m (j + 1) (by omega)
      have ea : lx (fd S i) (m + 1) j = fd S i j * 16384 ^ m + lx (fd S i) m (j + 1) := rfl
      have eb : lx (fd T k) (m + 1) j = fd T k j * 16384 ^ m + lx (fd T k) m (j + 1) := rfl
      rw [ea, eb] at he
      have ej : fd S i j = fd T k j := by
        apply Classical.byContradiction
        intro c
        by_cases q : fd S i j < fd T k j
        · have e3 : (fd S i j + 1) * 16384 ^ m ≤ fd T k j * 16384 ^ m := Nat.mul_le_mul_right _ (by omega)
          rw [Nat.add_mul, Nat.one_mul] at e3
          omega
        · have e3 : (fd T k j + 1) * 16384 ^ m ≤ fd S i j * 16384 ^ m := Nat.mul_le_mul_right _ (by omega)
          rw [Nat.add_mul, Nat.one_mul] at e3
          omega
      by_cases c : q = j
      · rw [c]; exact ej
      · rw [ej] at he
        exact ih (j + 1) (by omega) (by omega) q (by omega) h2
  exact fun j hj => key 9 0 (by omega) he j (Nat.zero_le _) hj
