/-! ===== a token ===== -/
def LEX (T : Nat → Nat) (n p k v pl nx : Nat) : Prop := pl = run isS T (n - p) p ∧
  ((n ≤ pl ∧ k = 0 ∧ nx = pl) ∨
  (pl < n ∧ isL (T pl) ∧ nx = run isL T (n - pl) pl ∧ ((k = 1 ∧ 1 ≤ v ∧ v < 13 ∧ mt T pl nx v) ∨ (k = 6 ∧ ∀ w, 1 ≤ w → w < 13 → ¬ mt T pl nx w))) ∨
  (pl < n ∧ ¬ isL (T pl) ∧ isD (T pl) ∧ nx = run isD T (n - pl) pl ∧ v = dgv T pl (n - pl) pl 0 ∧ ((k = 2 ∧ nx ≤ pl + 4) ∨ (k = 6 ∧ pl + 4 < nx))) ∨
  (pl < n ∧ ¬ isL (T pl) ∧ ¬ isD (T pl) ∧ nx = pl + 1 ∧ ((T pl = 59 ∧ k = 3) ∨ (T pl = 123 ∧ k = 4) ∨ (T pl = 125 ∧ k = 5) ∨ (T pl ≠ 59 ∧ T pl ≠ 123 ∧ T pl ≠ 125 ∧ k = 6))))
theorem LEX_ex (T : Nat → Nat) (n p : Nat) : ∃ k v pl nx, LEX T n p k v pl nx := by
  unfold LEX
  by_cases c1 : n ≤ run isS T (n - p) p
  · exact ⟨0, 0, _, _, rfl, Or.inl ⟨c1, rfl, rfl⟩⟩
  · by_cases c2 : isL (T (run isS T (n - p) p))
    · by_cases c3 : ∃ w, 1 ≤ w ∧ w < 13 ∧ mt T (run isS T (n - p) p) (run isL T (n - run isS T (n - p) p) (run isS T (n - p) p)) w
      · obtain ⟨w, h1, h2, h3⟩ := c3
        exact ⟨1, w, _, _, rfl, Or.inr (Or.inl ⟨by omega, c2, rfl, Or.inl ⟨rfl, h1, h2, h3⟩⟩)⟩
      · exact ⟨6, 0, _, _, rfl, Or.inr (Or.inl ⟨by omega, c2, rfl, Or.inr ⟨rfl, fun w h1 h2 h3 => c3 ⟨w, h1, h2, h3⟩⟩⟩)⟩
    · by_cases c3 : isD (T (run isS T (n - p) p))
      · by_cases c4 : run isD T (n - run isS T (n - p) p) (run isS T (n - p) p) ≤ run isS T (n - p) p + 4
        · exact ⟨2, _, _, _, rfl, Or.inr (Or.inr (Or.inl ⟨by omega, c2, c3, rfl, rfl, Or.inl ⟨rfl, c4⟩⟩))⟩
        · exact ⟨6, _, _, _, rfl, Or.inr (Or.inr (Or.inl ⟨by omega, c2, c3, rfl, rfl, Or.inr ⟨rfl, by omega⟩⟩))⟩
      · have hq : ∃ k, (T (run isS T (n - p) p) = 59 ∧ k = 3) ∨ (T (run isS T (n - p) p) = 123 ∧ k = 4) ∨ (T (run isS T (n - p) p) = 125 ∧ k = 5) ∨ (T (run isS T (n - p) p) ≠ 59 ∧ T (run isS T (n - p) p) ≠ 123 ∧ T (run isS T (n - p) p) ≠ 125 ∧ k = 6) := by
          by_cases d1 : T (run isS T (n - p) p) = 59
          · exact ⟨3, by omega⟩
          · by_cases d2 : T (run isS T (n - p) p) = 123
            · exact ⟨4, by omega⟩
            · by_cases d3 : T (run isS T (n - p) p) = 125
              · exact ⟨5, by omega⟩
              · exact ⟨6, by omega⟩
        obtain ⟨k, hk⟩ := hq
        exact ⟨k, 0, _, _, rfl, Or.inr (Or.inr (Or.inr ⟨by omega, c2, c3, rfl, hk⟩))⟩
theorem run_1 {P : Nat → Prop} [DecidablePred P] {T : Nat → Nat} {m p : Nat} (hm : m ≠ 0) (h : P (T p)) : p < run P T m p := by
  obtain ⟨k, rfl⟩ : ∃ k, m = k + 1 := ⟨m - 1, by omega⟩
  unfold run
  rw [if_pos h]
  have := (run_ge (P := P) (T := T) k (p + 1)).1
  omega
theorem dgv_le {T : Nat → Nat} {pl : Nat} : ∀ (m p v : Nat), pl ≤ p → p ≤ pl + 4 → v < 10 ^ (p - pl) → dgv T pl m p v < 10000
  | 0, p, v, h1, h2, h3 => by
    unfold dgv
    have : 10 ^ (p - pl) ≤ 10 ^ 4 := Nat.pow_le_pow_right (by omega) (by omega)
    omega
  | m + 1, p, v, h1, h2, h3 => by
    have hb : 10 ^ (p - pl) ≤ 10 ^ 4 := Nat.pow_le_pow_right (by omega) (by omega)
    unfold dgv
    by_cases c : isD (T p)
    · rw [if_pos c]
      by_cases c4 : pl + 4 ≤ p
      · rw [if_pos c4]
        have : ∀ (m q : Nat), pl + 4 ≤ q → dgv T pl m q v = v := by
          intro m
          induction m with
          | zero => intro q _; rfl
          | succ m ih =>
            intro q hq
            unfold dgv
            by_cases c : isD (T q)
            · rw [if_pos c, if_pos hq, ih (q + 1) (by omega)]
            · rw [if_neg c]
        rw [this m (p + 1) (by omega)]
        omega
      · rw [if_neg c4]
        refine dgv_le m (p + 1) _ (by omega) (by omega) ?_
        rw [show p + 1 - pl = (p - pl) + 1 by omega, Nat.pow_succ]
        have := c.2
        omega
    · rw [if_neg c]
      omega
theorem LEX_b {T : Nat → Nat} {n p k v pl nx : Nat} (h : LEX T n p k v pl nx) (hp : p ≤ n) : p ≤ pl ∧ pl ≤ n ∧ pl ≤ nx ∧ nx ≤ n ∧ (k ≠ 0 → pl < nx) ∧ k ≤ 6 ∧ (k = 2 → v < 10000) ∧ (k = 1 → 1 ≤ v ∧ v < 13) ∧ (k = 0 → pl = n) := by
  obtain ⟨h1, h2⟩ := h
  have g := run_ge (P := isS) (T := T) (n - p) p
  rw [← h1] at g
  rcases h2 with ⟨a, b, c⟩ | ⟨a, b, c, d⟩ | ⟨a, b, c, d, e, f⟩ | ⟨a, b, c, d, e⟩
  · omega
  · have g2 := run_ge (P := isL) (T := T) (n - pl) pl
    have g3 := run_1 (P := isL) (T := T) (m := n - pl) (p := pl) (by omega) b
    rw [← c] at g2 g3
    omega
  · have g2 := run_ge (P := isD) (T := T) (n - pl) pl
    have g3 := run_1 (P := isD) (T := T) (m := n - pl) (p := pl) (by omega) c
    have g4 := dgv_le (T := T) (pl := pl) (n - pl) pl 0 (by omega) (by omega) (by rw [Nat.sub_self]; decide)
    rw [← d] at g2 g3
    rw [← e] at g4
    omega
  · omega
/-- what the class's reader then holds -/
def TOKC (M M' : j_M) (k v pl nx : Nat) : Prop := M' 28 9 = nI nx ∧ M' 28 10 = nI k ∧ M' 28 12 = nI pl ∧ (k = 1 ∨ k = 2 → M' 28 11 = nI v) ∧ (∀ x, x ≠ 28 → M' x = M x) ∧ (∀ j, j < 9 → M' 28 j = M 28 j)
theorem x_readToken {T : Nat → Nat} {n p k v pl nx : Nat} {M : j_M} (h : TC M T n) (h9 : M 28 9 = nI p) (hp : p ≤ n) (hx : LEX T n p k v pl nx) : ∃ M', xX8_readToken M = some M' ∧ TOKC M M' k v pl nx := by
  have hn := h.1
  have hb := LEX_b hx hp
  obtain ⟨h1, h2⟩ := hx
  have hT0 : TC (mw (mw M 28 9 (nI pl)) 28 12 (nI pl)) T n := TC_w (TC_w h (by omega)) (by omega)
  have f1 : ∀ x, x ≠ 28 → mw (mw M 28 9 (nI pl)) 28 12 (nI pl) x = M x := fun x hx => by rw [mw_oth hx, mw_oth hx]
  have f2 : ∀ j, j ≠ 9 → j ≠ 12 → mw (mw M 28 9 (nI pl)) 28 12 (nI pl) 28 j = M 28 j := fun j a b => by rw [mw_ne b, mw_ne a]
  have f9 : mw (mw M 28 9 (nI pl)) 28 12 (nI pl) 28 9 = nI pl := by rw [mw_ne (by omega), mw_at (by omega)]
  have f12 : mw (mw M 28 9 (nI pl)) 28 12 (nI pl) 28 12 = nI pl := mw_at (by omega)
  have st : xX8_readToken M = xX8_readToken_52 (mw M 28 9 (nI pl)) := by
    unfold xX8_readToken
    rw [show fu = (999999 - (n - p)) + (n - p) + 1 by unfold fu; omega, x_rt0 (n - p) p M h h9 (by omega), ← h1]
  rw [st]
  unfold xX8_readToken_52
  rw [mw_at (by omega), e_oli2, e_oml2, f9, e_oli2]
  generalize mw (mw M 28 9 (nI pl)) 28 12 (nI pl) = M0 at *
  rw [hT0.2.1, e_oli2]
  simp (disch := omega) only [e_lt]
  rcases h2 with ⟨a, b, c⟩ | ⟨a, b, c, d⟩ | ⟨a, b, c, d, e, f⟩ | ⟨a, b, c, d, e⟩
  · rw [if_neg (by omega), e_oml2]
    subst b
    refine ⟨_, rfl, ?_, mw_at (by omega), ?_, fun q => by omega, fun x hx => ?_, fun j hj => ?_⟩
    · rw [mw_ne (by omega), f9, c]
    · rw [mw_ne (by omega), f12]
    · rw [mw_oth hx, f1 x hx]
    · rw [mw_ne (by omega), f2 j (by omega) (by omega)]
  · have hTp := hT0.2.2 pl a
    rw [if_pos a, e_oli2, e_gd (by omega) (by omega), e_ix2 (by omega), hTp.2, e_oli2, x_isL hTp.1, e_obi2, if_pos b, if_neg (by decide)]
    have hw : xX8_takeWord M0 = xX8_takeWord_57 (lN (wdv T (n - pl) pl 0)) (mw M0 28 9 (nI nx)) := by
      unfold xX8_takeWord
      rw [show fu = (999999 - (n - pl)) + (n - pl) + 1 by unfold fu; omega, show (0 : Int64) = lN 0 from rfl, x_tw2 (n - pl) pl 0 M0 hT0 f9 (by omega), ← c]
    have hV := (wdv_b (T := T) (n - pl) pl 0 (by omega)).1
    rw [hw]
    unfold xX8_takeWord_57
    rw [e_oml2]
    have q0 : TC (mw (mw M0 28 9 (nI nx)) 28 10 (nI 6)) T n := TC_w (TC_w hT0 (by omega)) (by omega)
    have q9 : mw (mw M0 28 9 (nI nx)) 28 10 (nI 6) 28 9 = nI nx := by rw [mw_ne (by omega), mw_at (by omega)]
    have q12 : mw (mw M0 28 9 (nI nx)) 28 10 (nI 6) 28 12 = nI pl := by rw [mw_ne (by omega), mw_ne (by omega), f12]
    rw [show fu = 999987 + 12 + 1 by unfold fu; omega]
    rcases d with ⟨d1, d2, d3, d4⟩ | ⟨d1, d2⟩
    · rw [x_tw_1 d3 ((wd_mt c d3 d2).2 d4) 12 1 (by omega) d2 (by omega), e_obv2]
      subst d1
      refine ⟨_, rfl, ?_, ?_, ?_, fun _ => mw_at (by omega), fun x hx => ?_, fun j hj => ?_⟩
      · rw [mw_ne (by omega), mw_ne (by omega), q9]
      · rw [mw_ne (by omega), mw_at (by omega)]
      · rw [mw_ne (by omega), mw_ne (by omega), q12]
      · rw [mw_oth hx, mw_oth hx, mw_oth hx, mw_oth hx, f1 x hx]
      · rw [mw_ne (by omega), mw_ne (by omega), mw_ne (by omega), mw_ne (by omega), f2 j (by omega) (by omega)]
    · rw [x_tw_n hV 12 1 (by omega) (by omega) (fun w h1 h2 h3 => d2 w h1 h2 ((wd_mt c h2 h1).1 h3)), e_obv2]
      subst d1
      refine ⟨_, rfl, q9, mw_at (by omega), q12, fun q => by omega, fun x hx => ?_, fun j hj => ?_⟩
      · rw [mw_oth hx, mw_oth hx, f1 x hx]
      · rw [mw_ne (by omega), mw_ne (by omega), f2 j (by omega) (by omega)]
  · have hTp := hT0.2.2 pl a
    rw [if_pos a, e_oli2, e_gd (by omega) (by omega), e_ix2 (by omega), hTp.2, e_oli2, x_isL hTp.1, e_obi2, if_neg b, if_pos (by decide), x_isD hTp.1, e_obi2, if_pos c, if_neg (by decide)]
    have hw : xX8_takeDigits M0 = xX8_takeDigits_81 (mw (mw (mw M0 28 11 (nI 0)) 28 9 (nI nx)) 28 11 (nI v)) := by
      unfold xX8_takeDigits
      rw [e_oml2, show fu = (999999 - (n - pl)) + (n - pl) + 1 by unfold fu; omega, x_td5 (n - pl) pl 0 _ (TC_w hT0 (by omega)) (by rw [mw_ne (by omega), f9]) (by rw [mw_ne (by omega), f12]) (mw_at (by omega)) (by omega) (by omega), ← d, ← e]
    rw [hw]
    unfold xX8_takeDigits_81 xX8_takeDigits_101
    have q9 : mw (mw (mw M0 28 11 (nI 0)) 28 9 (nI nx)) 28 11 (nI v) 28 9 = nI nx := by rw [mw_ne (by omega), mw_at (by omega)]
    have q12 : mw (mw (mw M0 28 11 (nI 0)) 28 9 (nI nx)) 28 11 (nI v) 28 12 = nI pl := by rw [mw_ne (by omega), mw_ne (by omega), mw_ne (by omega), f12]
    rw [q9, q12, e_oli2, e_oli2, e_sub (by omega)]
    simp (disch := omega) only [e_lt]
    have fin : ∀ kk, (kk = 1 ∨ kk = 2 → True) → TOKC M (mw (mw (mw (mw M0 28 11 (nI 0)) 28 9 (nI nx)) 28 11 (nI v)) 28 10 (nI kk)) kk v pl nx := by
      intro kk _
      refine ⟨?_, mw_at (by omega), ?_, fun _ => ?_, fun x hx => ?_, fun j hj => ?_⟩
      · rw [mw_ne (by omega), q9]
      · rw [mw_ne (by omega), q12]
      · rw [mw_ne (by omega), mw_at (by omega)]
      · rw [mw_oth hx, mw_oth hx, mw_oth hx, mw_oth hx, f1 x hx]
      · rw [mw_ne (by omega), mw_ne (by omega), mw_ne (by omega), mw_ne (by omega), f2 j (by omega) (by omega)]
    rcases f with ⟨d1, d2⟩ | ⟨d1, d2⟩
    · rw [if_neg (by omega), e_oml2, e_obv2, d1]
      exact ⟨_, rfl, fin 2 (fun _ => trivial)⟩
    · rw [if_pos (by omega), e_oml2, e_obv2, d1]
      exact ⟨_, rfl, fin 6 (fun _ => trivial)⟩
  · have hTp := hT0.2.2 pl a
    rw [if_pos a, e_oli2, e_gd (by omega) (by omega), e_ix2 (by omega), hTp.2, e_oli2, x_isL hTp.1, e_obi2, if_neg b, if_pos (by decide), x_isD hTp.1, e_obi2, if_neg c, if_pos (by decide), f9, e_oli2, e_oml2, e_add]
    unfold xX8_readToken_158
    simp (disch := omega) only [e_eq, e_oml2]
    have fin : ∀ kk, kk ≠ 1 → kk ≠ 2 → TOKC M (mw (mw M0 28 9 (nI (pl + 1))) 28 10 (nI kk)) kk v pl nx := by
      intro kk k1 k2
      refine ⟨?_, mw_at (by omega), ?_, fun q => by omega, fun x hx => ?_, fun j hj => ?_⟩
      · rw [mw_ne (by omega), mw_at (by omega), d]
      · rw [mw_ne (by omega), mw_ne (by omega), f12]
      · rw [mw_oth hx, mw_oth hx, f1 x hx]
      · rw [mw_ne (by omega), mw_ne (by omega), f2 j (by omega) (by omega)]
    rcases e with ⟨e1, rfl⟩ | ⟨e1, rfl⟩ | ⟨e1, rfl⟩ | ⟨e1, e2, e3, rfl⟩
    · rw [if_pos e1]
      exact ⟨_, rfl, fin 3 (by omega) (by omega)⟩
    · rw [if_neg (by omega), if_pos e1]
      exact ⟨_, rfl, fin 4 (by omega) (by omega)⟩
    · rw [if_neg (by omega), if_neg (by omega), if_pos e1]
      exact ⟨_, rfl, fin 5 (by omega) (by omega)⟩
    · rw [if_neg e1, if_neg e2, if_neg e3]
      exact ⟨_, rfl, fin 6 (by omega) (by omega)⟩
