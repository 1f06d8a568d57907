/-! ===== the class sorts its row ===== -/
theorem gp_lcv : gp lcv := by
  intro g g' h
  unfold lcv cgv
  rw [h 0 (by omega), h 1 (by omega), h 2 (by omega), h 3 (by omega), h 4 (by omega), h 5 (by omega), h 6 (by omega), h 7 (by omega), h 8 (by omega)]
theorem lcv_lt {S : a_S} {i : Nat} (h : RG S) (hv : VM S) (hi : i < S 1 7) : lcv (fd S i) < 2147483648 := by
  have g := g_f h i
  have v := hv i hi
  have f0 : fd S i 0 = S 586 (9 * i) := rfl
  have f1 : fd S i 1 = S 586 (9 * i + 1) := rfl
  have f2 : fd S i 2 = S 586 (9 * i + 2) := rfl
  have f3 : fd S i 3 = S 586 (9 * i + 3) := rfl
  have f4 : fd S i 4 = S 586 (9 * i + 4) := rfl
  have f5 : fd S i 5 = S 586 (9 * i + 5) := rfl
  have f6 : fd S i 6 = S 586 (9 * i + 6) := rfl
  have f7 : fd S i 7 = S 586 (9 * i + 7) := rfl
  have f8 : fd S i 8 = S 586 (9 * i + 8) := rfl
  unfold VMf at v
  unfold lcv lvv cgv
  split
  · omega
  · omega
/-- one code, one message -/
theorem lcv_in {S T : a_S} {i k : Nat} (h : RG S) (hv : VM S) (hi : i < S 1 7) (h' : RG T) (hv' : VM T) (hk : k < T 1 7) (he : lcv (fd S i) = lcv (fd T k)) : ∀ j, j < 9 → fd S i j = fd T k j := by
  have g := g_f h i
  have v := hv i hi
  have g' := g_f h' k
  have v' := hv' k hk
  unfold VMf at v v'
  unfold lcv lvv cgv at he
  rw [if_neg (by omega), if_neg (by omega)] at he
  have f0 : fd S i 0 = S 586 (9 * i) := rfl
  have f1 : fd S i 1 = S 586 (9 * i + 1) := rfl
  have f2 : fd S i 2 = S 586 (9 * i + 2) := rfl
  have f3 : fd S i 3 = S 586 (9 * i + 3) := rfl
  have f4 : fd S i 4 = S 586 (9 * i + 4) := rfl
  have f5 : fd S i 5 = S 586 (9 * i + 5) := rfl
  have f6 : fd S i 6 = S 586 (9 * i + 6) := rfl
  have f7 : fd S i 7 = S 586 (9 * i + 7) := rfl
  have f8 : fd S i 8 = S 586 (9 * i + 8) := rfl
  have e0 : fd T k 0 = T 586 (9 * k) := rfl
  have e1 : fd T k 1 = T 586 (9 * k + 1) := rfl
  have e2 : fd T k 2 = T 586 (9 * k + 2) := rfl
  have e3 : fd T k 3 = T 586 (9 * k + 3) := rfl
  have e4 : fd T k 4 = T 586 (9 * k + 4) := rfl
  have e5 : fd T k 5 = T 586 (9 * k + 5) := rfl
  have e6 : fd T k 6 = T 586 (9 * k + 6) := rfl
  have e7 : fd T k 7 = T 586 (9 * k + 7) := rfl
  have e8 : fd T k 8 = T 586 (9 * k + 8) := rfl
  rw [← f0, ← f1, ← f2, ← f3, ← f4, ← f5, ← f6, ← f7, ← f8] at g
  rw [← e0, ← e1, ← e2, ← e3, ← e4, ← e5, ← e6, ← e7, ← e8] at g'
  clear f0 f1 f2 f3 f4 f5 f6 f7 f8 e0 e1 e2 e3 e4 e5 e6 e7 e8
  generalize fd S i = a at *
  generalize fd T k = b at *
  have q0 : a 0 = b 0 := by omega
  have q1 : a 1 = b 1 := by omega
  have q2 : a 2 = b 2 := by omega
  have q3 : a 3 = b 3 := by omega
  have qc : a 4 + 16 * a 5 + 32 * a 6 + a 8 + 4 * a 7 = b 4 + 16 * b 5 + 32 * b 6 + b 8 + 4 * b 7 := by omega
  have q4 : a 4 = b 4 ∧ a 5 = b 5 ∧ a 6 = b 6 ∧ a 7 = b 7 ∧ a 8 = b 8 := by
    by_cases c3 : a 2 = 3
    · have w1 := v.2.2.1 c3
      have w2 := v'.2.2.1 (by omega)
      clear v v' he
      omega
    · have w1 := v.2.2.2.1 c3
      have w2 := v'.2.2.2.1 (by omega)
      clear v v' he
      omega
  intro j hj
  have hj9 : j = 0 ∨ j = 1 ∨ j = 2 ∨ j = 3 ∨ j = 4 ∨ j = 5 ∨ j = 6 ∨ j = 7 ∨ j = 8 := by omega
  rcases hj9 with rfl | rfl | rfl | rfl | rfl | rfl | rfl | rfl | rfl <;> omega
theorem xs_row {N : j_M} {t j : Nat} {S : a_S} (h : j < 240) : XS N t S (t + 2) j = nI (lcv (fd S j)) := xs_r (k := 2) (by omega) (Nat.zero_le _) h
theorem nI_prm {p : Nat} : nI (p + 1) + (-1 : Int32) = nI p := by
  rw [← Int32.sub_eq_add_neg]
  exact nI_pred p
theorem mw_id {M : j_M} {a i : Nat} : mw M a i (M a i) = M := by
  funext x j
  unfold mw
  by_cases c1 : x = a
  · by_cases c2 : j = i
    · simp [c1, c2]
    · simp [c2]
  · simp [c1]
/-- the swap, behind a hole in the row -/
theorem xs_swp {N : j_M} {t k : Nat} {S : a_S} {v0 : Int32} (ht : t ≠ 0) (hk : k + 1 < 240) : mw (mw (XS N t S) (t + 2) (k + 1) v0) (t + 2) (k + 1) (nI (lcv (fd S k))) = mw (XS N t (swp S k)) (t + 2) k (nI (lcv (fd S k))) := by
  rw [mw_mw]
  funext x j
  by_cases hx : x = t + 2
  · subst hx
    by_cases h1 : j = k + 1
    · subst h1
      rw [mw_at (by omega), mw_ne (by omega), xs_row hk, gp_lcv _ _ (fun q hq => swp_b hq)]
    · rw [mw_ne h1]
      by_cases h2 : j = k
      · subst h2
        rw [mw_at (by omega), xs_row (by omega)]
      · rw [mw_ne h2]
        by_cases h3 : j < 240
        · rw [xs_row h3, xs_row h3, gp_lcv _ _ (fun q hq => swp_c hq h2 h1)]
        · have e : ∀ A : a_S, XS N t A (t + 2) j = N (t + 2) j := fun A => by
            unfold XS
            rw [if_neg]
            intro q
            have q4 := q.2.2.2
            rw [show t + 2 - t = 2 by omega] at q4
            have : ch 2 = 240 := rfl
            omega
          rw [e, e]
  · rw [mw_oth hx, mw_oth hx]
    unfold XS
    by_cases hr : t ≤ x ∧ x < t + 20 ∧ cl (x - t) ≤ j ∧ j < ch (x - t)
    · rw [if_pos hr, if_pos hr]
      refine (cv_c (by omega) (fun r i hc => swp_o ?_)).symm
      unfold cu cu1 at hc
      omega
    · rw [if_neg hr, if_neg hr]
/-- sorted up to i, but for the one at p, which is below all behind it -/
def SJ (S : a_S) (i p : Nat) : Prop := (∀ a b, a < b → b ≤ i → a ≠ p → b ≠ p → lcv (fd S a) ≤ lcv (fd S b)) ∧ (∀ b, p < b → b ≤ i → lcv (fd S p) ≤ lcv (fd S b))
theorem x_sort14 {N : j_M} {t i n k : Nat} (ht : t ≠ 0) (hn : n ≤ 240) (hi : i < n) (K : Int32 → Int32 → j_M → Option j_M) : ∀ (p : Nat) (S : a_S) (v0 : Int32), p ≤ i → S 1 7 = n → RG S → VM S → SJ S i p → ∃ S', xX10_sort_14 K 256 (t + 2) (k + p + 1) (nI n) (nI i) (nI (lcv (fd S p))) (nI p) (mw (XS N t S) (t + 2) p v0) = K (nI n) (nI (i + 1)) (XS N t S') ∧ PRM S S' ∧ (∀ a b, a < b → b ≤ i → lcv (fd S' a) ≤ lcv (fd S' b)) := by
  intro p
  have e45 : ∀ (p : Nat) (S : a_S) (v0 : Int32), p ≤ i → xX10_sort_45 K 256 (t + 2) (nI n) (nI i) (nI (lcv (fd S p))) (nI p) (mw (XS N t S) (t + 2) p v0) = K (nI n) (nI (i + 1)) (XS N t S) := by
    intro p S v0 hp
    unfold xX10_sort_45
    rw [e_gd (by omega) (by omega), e_ix2 (by omega), e_oml2, mw_mw, ← xs_row (N := N) (t := t) (S := S) (j := p) (by omega), mw_id, e_add]
  induction p with
  | zero =>
    intro S v0 hp h7 hr hv hj
    refine ⟨S, ?_, PRM_r, fun a b h1 h2 => ?_⟩
    · rw [xX10_sort_14.eq_2, if_pos (by decide), e45 0 S v0 hp]
    · by_cases c : a = 0
      · subst c; exact hj.2 b h1 h2
      · exact hj.1 a b h1 h2 c (by omega)
  | succ p ih =>
    intro S v0 hp h7 hr hv hj
    have b1 := lcv_lt hr hv (i := p) (by omega)
    have b2 := lcv_lt hr hv (i := p + 1) (by omega)
    have st : xX10_sort_14 K 256 (t + 2) (k + (p + 1) + 1) (nI n) (nI i) (nI (lcv (fd S (p + 1)))) (nI (p + 1)) (mw (XS N t S) (t + 2) (p + 1) v0) = if lcv (fd S p) ≤ lcv (fd S (p + 1)) then K (nI n) (nI (i + 1)) (XS N t S) else xX10_sort_14 K 256 (t + 2) (k + p + 1) (nI n) (nI i) (nI (lcv (fd S (p + 1)))) (nI p) (mw (XS N t (swp S p)) (t + 2) p (nI (lcv (fd S p)))) := by
      rw [show k + (p + 1) + 1 = (k + p + 1) + 1 by omega, xX10_sort_14.eq_2, if_neg (by rw [e_le0 (by omega)]; omega), e45 (p + 1) S v0 hp, e_sub (by omega), show p + 1 - 1 = p by omega, e_gd (by omega) (by omega), e_ix2 (by omega), mw_ne (by omega), xs_row (by omega), e_oli2, f_le b1 b2, e_gd (by omega) (by omega), e_oli2, e_gd (by omega) (by omega), e_ix2 (by omega), e_oml2, xs_swp ht (by omega), show nI (p + 1) + (-1 : Int32) = nI p from nI_prm]
    rw [st]
    by_cases c : lcv (fd S p) ≤ lcv (fd S (p + 1))
    · rw [if_pos c]
      refine ⟨S, rfl, PRM_r, fun a b h1 h2 => ?_⟩
      by_cases ca : a = p + 1
      · subst ca; exact hj.2 b h1 h2
      · by_cases cb : b = p + 1
        · subst cb
          by_cases cp : a = p
          · subst cp; exact c
          · exact Nat.le_trans (hj.1 a p (by omega) (by omega) (by omega) (by omega)) c
        · exact hj.1 a b h1 h2 ca cb
    · rw [if_neg c]
      have ea := gp_lcv _ _ (fun q hq => swp_a (S := S) (k := p) (j := q) hq)
      have eb := gp_lcv _ _ (fun q hq => swp_b (S := S) (k := p) (j := q) hq)
      have eo : ∀ a, a ≠ p → a ≠ p + 1 → lcv (fd (swp S p) a) = lcv (fd S a) := fun a h1 h2 => gp_lcv _ _ (fun q hq => swp_c hq h1 h2)
      have pm := PRM_swp (S := S) (k := p) (by omega)
      have hv' : VM (swp S p) := by
        intro a ha
        rw [swp_o (by omega)] at ha
        obtain ⟨q, q1, q2⟩ := pm.2.2.1 a ha
        rw [swp_o (by omega)]
        exact VMf_c (hv q q1) q2
      have hJ : SJ (swp S p) i p := by
        refine ⟨fun a b h1 h2 h3 h4 => ?_, fun b h1 h2 => ?_⟩
        · by_cases ca : a = p + 1
          · subst ca
            rw [eb, eo b (by omega) (by omega)]
            exact hj.1 p b (by omega) h2 (by omega) (by omega)
          · by_cases cb : b = p + 1
            · subst cb
              rw [eb, eo a h3 ca]
              exact hj.1 a p (by omega) (by omega) (by omega) (by omega)
            · rw [eo a h3 ca, eo b h4 cb]
              exact hj.1 a b h1 h2 ca cb
        · rw [ea]
          by_cases cb : b = p + 1
          · subst cb
            rw [eb]
            omega
          · rw [eo b (by omega) cb]
            exact hj.2 b (by omega) h2
      obtain ⟨S', g1, g2, g3⟩ := ih (swp S p) (nI (lcv (fd S p))) (by omega) (by rw [swp_o (by omega)]; exact h7) (pm.2.2.2 hr) hv' hJ
      rw [ea] at g1
      exact ⟨S', g1, PRM_t pm g2, g3⟩
theorem x_sort2 {N : j_M} {t n k : Nat} (ht : t ≠ 0) (hn : n ≤ 240) : ∀ (m i : Nat) (S : a_S), i + m = n ∨ (m = 0 ∧ n ≤ i) → 1 ≤ i → i ≤ 1 ∨ i ≤ n → S 1 7 = n → RG S → VM S → (∀ a b, a < b → b < i → lcv (fd S a) ≤ lcv (fd S b)) → ∃ S', xX10_sort_2 256 (t + 2) (k + m + 1) (nI n) (nI i) (XS N t S) = some (XS N t S') ∧ PRM S S' ∧ (∀ a b, a < b → b < n → lcv (fd S' a) ≤ lcv (fd S' b)) := by
  intro m
  induction m with
  | zero =>
    intro i S h h1 h2 h7 hr hv hs
    refine ⟨S, ?_, PRM_r, fun a b q1 q2 => hs a b q1 (by omega)⟩
    rw [xX10_sort_2.eq_2, if_pos (by rw [e_le (by omega) (by omega)]; omega)]
  | succ m ih =>
    intro i S h h1 h2 h7 hr hv hs
    obtain ⟨S1, g1, g2, g3⟩ := x_sort14 (N := N) (t := t) (i := i) (n := n) (k := 999999 - i) ht hn (by omega) (xX10_sort_2 256 (t + 2) (k + m + 1)) i S (nI (lcv (fd S i))) (Nat.le_refl _) h7 hr hv ⟨fun a b q1 q2 q3 q4 => hs a b q1 (by omega), fun b q1 q2 => by omega⟩
    have e7 : S1 1 7 = n := by rw [g2.1 1 7 (by omega)]; exact h7
    have hv1 : VM S1 := by
      intro a ha
      rw [e7] at ha
      obtain ⟨q, q1, q2⟩ := g2.2.2.1 a (by omega)
      rw [g2.1 1 0 (by omega)]
      exact VMf_c (hv q q1) q2
    obtain ⟨S', g4, g5, g6⟩ := ih (i + 1) S1 (by omega) (by omega) (by omega) e7 (g2.2.2.2 hr) hv1 (fun a b q1 q2 => g3 a b q1 (by omega))
    refine ⟨S', ?_, PRM_t g2 g5, g6⟩
    rw [← xs_row (N := N) (t := t) (S := S) (j := i) (by omega), mw_id, xs_row (by omega), show 999999 - i + i + 1 = fu by unfold fu; omega] at g1
    rw [show k + (m + 1) + 1 = (k + m + 1) + 1 by omega, xX10_sort_2.eq_2, if_neg (by rw [e_le (by omega) (by omega)]; omega), e_gd (by omega) (by omega), e_ix2 (by omega), xs_row (by omega), e_oli2, g1, g4]
/-- the class's row is sorted -/
def SRC (S : a_S) : Prop := ∀ a b, a < b → b < S 1 7 → lcv (fd S a) ≤ lcv (fd S b)
theorem x_sort {N : j_M} {t : Nat} {S : a_S} (ht : t ≠ 0) (hi : INV S z0) : ∃ S', xX10_sort 256 (t + 2) (nI (S 1 7)) (XS N t S) = some (XS N t S') ∧ PRM S S' ∧ SRC S' := by
  have hq := INV_q hi
  obtain ⟨S', g1, g2, g3⟩ := x_sort2 (N := N) (t := t) (n := S 1 7) (k := 999999 - (S 1 7 - 1)) ht (by omega) (S 1 7 - 1) 1 S (by omega) (by omega) (by omega) rfl hi.1 hi.2.2.2.1 (fun a b h1 h2 => by omega)
  refine ⟨S', ?_, g2, fun a b h1 h2 => g3 a b h1 (by rw [← g2.1 1 7 (by omega)]; exact h2)⟩
  unfold xX10_sort
  rw [show 999999 - (S 1 7 - 1) + (S 1 7 - 1) + 1 = fu by unfold fu; omega] at g1
  exact g1
