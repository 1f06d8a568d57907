theorem sm_z : ∀ (n : Nat) (g : Nat → Nat), sm g n = 0 → ∀ j, j < n → g j = 0
  | 0, _, _, j, hj => by omega
  | n + 1, g, h, j, hj => by
    rw [sm_s] at h
    by_cases w : j = n
    · rw [w]; omega
    · exact sm_z n g (by omega) j (by omega)
theorem x_c43 {n ec fk : Nat} {es et ee : Nat → Nat} {X : Nat → Prop} {M0 : j_M} (h0 : WED M0 n ec es et ee) (hX : ∀ x, x < n → X x → ∃ y, y < n ∧ X y ∧ EE ec es et y x) : ∀ (m s q : Nat) (M : j_M) (Q : Nat → Nat), s + m = n → (∀ x, x ≠ 109 → x ≠ 110 → M x = M0 x) → (∀ t, t < n → M 109 t = nI (wsum ec et (fun _ => 1) t)) → q ≤ s → (∀ j, j < q → M 110 j = nI (Q j) ∧ Q j < s ∧ ¬ X (Q j)) → (∀ a b, a < b → b < q → Q a ≠ Q b) → (∀ t, t < s → (wsum ec et (fun _ => 1) t = 0 ↔ ∃ j, j < q ∧ Q j = t)) → ∃ M' q' Q', xX10_canComeBack_43 (fk + m + 1) (nI q) (nI s) M = xX10_canComeBack_78 fu (nI q') (nI 0) M' ∧ (∀ x, x ≠ 109 → x ≠ 110 → M' x = M0 x) ∧ KI M' n ec es et X q' 0 0 Q' (fun _ => 1) := by
  intro m
  induction m with
  | zero =>
    intro s q M Q hs hx hW hq h1 h2 h3
    have hE : WED M n ec es et ee := WED_e h0 (hx 100 (by omega) (by omega)) (hx 107 (by omega) (by omega)) (hx 108 (by omega) (by omega))
    have : s = n := by omega
    subst this
    refine ⟨M, q, Q, ?_, hx, hq, h1, h2, hW, fun e he => ⟨Nat.le_refl _, ?_⟩, h3⟩
    · rw [xX10_canComeBack_43.eq_2, hE.2.2.1, e_oli2, if_pos (by rw [e_le (by have := hE.1; omega) (by have := hE.1; omega)]; omega)]
    · constructor
      · intro w; exact absurd (show 1 = 0 from w) (by decide)
      · rintro (⟨j, j1, _⟩ | ⟨_, _, c3⟩) <;> omega
  | succ m ih =>
    intro s q M Q hs hx hW hq h1 h2 h3
    have hE : WED M n ec es et ee := WED_e h0 (hx 100 (by omega) (by omega)) (hx 107 (by omega) (by omega)) (hx 108 (by omega) (by omega))
    obtain ⟨a1, a2, a3, a4, a5, a6, a7⟩ := hE
    have hle := wsum_le (ec := ec) (et := et) (r := fun _ => 1) (t := s) (fun e he => Nat.le_refl _)
    have st : xX10_canComeBack_43 (fk + (m + 1) + 1) (nI q) (nI s) M = if wsum ec et (fun _ => 1) s = 0 then xX10_canComeBack_43 (fk + m + 1) (nI (q + 1)) (nI (s + 1)) (mw M 110 q (nI s)) else xX10_canComeBack_43 (fk + m + 1) (nI q) (nI (s + 1)) M := by
      rw [show fk + (m + 1) + 1 = (fk + m + 1) + 1 by omega, xX10_canComeBack_43.eq_2, a3, e_oli2, if_neg (by rw [e_le (by omega) (by omega)]; omega), e_gd (by omega) (by omega), e_ix2 (by omega), hW s (by omega), e_oli2, e_gd (by omega) (by omega), e_ix2 (by omega), e_oml2, e_add, e_add]
      by_cases c : wsum ec et (fun _ => 1) s = 0
      · rw [if_pos c, if_pos (by rw [c]; decide)]
      · rw [if_neg c, if_neg (by rw [e_eq0 (by omega)]; exact c)]
    rw [st]
    by_cases c : wsum ec et (fun _ => 1) s = 0
    · rw [if_pos c]
      have Qo : ∀ j, j < q → dup Q q s j = Q j := fun j hj => if_neg (by omega)
      have Qn : dup Q q s q = s := if_pos rfl
      refine ih (s + 1) (q + 1) (mw M 110 q (nI s)) (dup Q q s) (by omega) (fun x x1 x2 => by rw [mw_oth x2, hx x x1 x2]) (fun t ht => by rw [mw_oth (by omega)]; exact hW t ht) (by omega) (fun j hj => ?_) (fun a b w1 w2 => ?_) (fun t ht => ?_)
      · by_cases w : j = q
        · rw [w, Qn, mw_at (by omega)]
          refine ⟨rfl, by omega, fun hx' => ?_⟩
          obtain ⟨y, y1, y2, e, e1, e2, e3⟩ := hX s (by omega) hx'
          have := sm_z ec _ c e e1
          simp only [if_pos e3] at this
          omega
        · rw [Qo j (by omega), mw_ne w]
          have := h1 j (by omega)
          exact ⟨this.1, by omega, this.2.2⟩
      · by_cases w : b = q
        · rw [w, Qn, Qo a (by omega)]
          have := (h1 a (by omega)).2.1
          omega
        · rw [Qo a (by omega), Qo b (by omega)]
          exact h2 a b w1 (by omega)
      · by_cases w : t = s
        · subst w
          exact ⟨fun _ => ⟨q, by omega, Qn⟩, fun _ => c⟩
        · rw [h3 t (by omega)]
          constructor
          · rintro ⟨j, j1, j2⟩
            exact ⟨j, by omega, by rw [Qo j j1]; exact j2⟩
          · rintro ⟨j, j1, j2⟩
            by_cases v : j = q
            · rw [v, Qn] at j2
              exact absurd j2.symm w
            · exact ⟨j, by omega, by rw [← Qo j (by omega)]; exact j2⟩
    · rw [if_neg c]
      refine ih (s + 1) q M Q (by omega) hx hW (by omega) (fun j hj => ?_) h2 (fun t ht => ?_)
      · have := h1 j hj
        exact ⟨this.1, by omega, this.2.2⟩
      · by_cases w : t = s
        · subst w
          constructor
          · intro v; exact absurd v c
          · rintro ⟨j, j1, j2⟩
            have := (h1 j j1).2.1
            omega
        · exact h3 t (by omega)
theorem x_c78 {n ec fk : Nat} {es et ee : Nat → Nat} {X : Nat → Prop} {M0 : j_M} (h0 : WED M0 n ec es et ee) (hX : ∀ x, x < n → X x → ∃ y, y < n ∧ X y ∧ EE ec es et y x) : ∀ (m i q : Nat) (M : j_M) (Q r : Nat → Nat), i + m = 250 → i ≤ q → (∀ x, x ≠ 109 → x ≠ 110 → M x = M0 x) → KI M n ec es et X q i 0 Q r → ∃ M' q' Q' r', xX10_canComeBack_78 (fk + m + 1) (nI q) (nI i) M = xX10_canComeBack_185 (nI q') M' ∧ (∀ x, x ≠ 109 → x ≠ 110 → M' x = M0 x) ∧ KI M' n ec es et X q' q' 0 Q' r' := by
  intro m
  induction m with
  | zero =>
    intro i q M Q r hi hq hx hK
    have hn := h0.1
    have hqn := hK.1
    have : i = q := by omega
    subst this
    refine ⟨M, i, Q, r, ?_, hx, hK⟩
    rw [xX10_canComeBack_78.eq_2, if_pos (by rw [e_le (by omega) (by omega)]; omega)]
  | succ m ih =>
    intro i q M Q r hi hq hx hK
    have hn := h0.1
    have hqn := hK.1
    by_cases c : i = q
    · subst c
      refine ⟨M, i, Q, r, ?_, hx, hK⟩
      rw [xX10_canComeBack_78.eq_2, if_pos (by rw [e_le (by omega) (by omega)]; omega)]
    · have hE : WED M n ec es et ee := WED_e h0 (hx 100 (by omega) (by omega)) (hx 107 (by omega) (by omega)) (hx 108 (by omega) (by omega))
      obtain ⟨a1, a2, a3, a4, a5, a6, a7⟩ := hE
      obtain ⟨k2a, k2b, k2c⟩ := hK.2.1 i (by omega)
      have hes := a6 (Q i) k2b
      have hKs : KI M n ec es et X q i (stE ee (Q i)) Q r := by
        obtain ⟨k1, k2, k3, k4, k5, k6⟩ := hK
        refine ⟨k1, k2, k3, k4, fun e he => ⟨(k5 e he).1, ?_⟩, k6⟩
        rw [(k5 e he).2]
        constructor
        · rintro (w | ⟨_, _, c3⟩)
          · exact Or.inl w
          · omega
        · rintro (w | ⟨c1, c2, c3⟩)
          · exact Or.inl w
          · have := (a7 (Q i) k2b e he).1 c2.symm
            omega
      have st : xX10_canComeBack_78 (fk + (m + 1) + 1) (nI q) (nI i) M = xX10_canComeBack_115 (xX10_canComeBack_78 (fk + m + 1)) fu (nI q) (nI i) (nI (Q i)) (nI (stE ee (Q i))) M := by
        rw [show fk + (m + 1) + 1 = (fk + m + 1) + 1 by omega, xX10_canComeBack_78.eq_2, if_neg (by rw [e_le (by omega) (by omega)]; omega), if_neg (by rw [e_le (by omega) (by omega)]; omega), e_gd (by omega) (by omega), e_ix2 (by omega), k2a, e_oli2]
        unfold xX10_canComeBack_113 stE
        by_cases w : Q i = 0
        · rw [if_pos (by rw [w]; decide), if_pos w]
        · rw [if_neg (by rw [e_eq0 (by omega)]; exact w), if_neg w, e_sub (by omega), e_gd (by omega) (by omega), e_ix2 (by omega), (a6 (Q i - 1) (by omega)).1, e_oli2]
      rw [st]
      have hee := hes.2.2
      have hel := hes.2.1
      obtain ⟨M', q', Q', r', g1, g2, g3, g4, g5⟩ := x_c115 (fk := 999999 - (ee (Q i) - stE ee (Q i))) (i := i) h0 hX k2b (xX10_canComeBack_78 (fk + m + 1)) (ee (Q i) - stE ee (Q i)) (stE ee (Q i)) q M Q r (by omega) (Nat.le_refl _) hx (by omega) rfl hKs
      rw [show 999999 - (ee (Q i) - stE ee (Q i)) + (ee (Q i) - stE ee (Q i)) + 1 = fu by unfold fu; omega] at g1
      rw [g1]
      exact ih (i + 1) q' M' Q' r' (by omega) (by omega) g2 g5
theorem x_ccb {M : j_M} {n ec : Nat} {es et ee : Nat → Nat} (h : WED M n ec es et ee) (hn : 0 < n) : ∃ z M', xX10_canComeBack M = some (nI z, M') ∧ (∀ x, x ≠ 109 → x ≠ 110 → M' x = M x) ∧ ((z = 1 ∧ SCL n (EE ec es et)) ∨ (z = 0 ∧ ¬ SCL n (EE ec es et))) := by
  have hX : ∃ X : Nat → Prop, (∀ x, x < n → X x → ∃ y, y < n ∧ X y ∧ EE ec es et y x) ∧ (SCL n (EE ec es et) → ∃ x, x < n ∧ X x) := by
    by_cases c : SCL n (EE ec es et)
    · obtain ⟨X, x1, x2⟩ := SCL_op c
      exact ⟨X, x2, fun _ => x1⟩
    · exact ⟨fun _ => False, fun _ _ w => w.elim, fun w => absurd w c⟩
  obtain ⟨X, hX1, hX2⟩ := hX
  have hF : WED (FIL M 109 0 250 (nI 0)) n ec es et ee := WED_e h (fil_o (by omega)) (fil_o (by omega)) (fil_o (by omega))
  have n250 := h.1
  have e6 := h.2.1
  obtain ⟨M1, e1, w1, f1⟩ := x_c10 (k := 999999 - ec) hF ec 0 (FIL M 109 0 250 (nI 0)) (by omega) hF (fun t ht => by rw [fil_r (by omega)]; rfl) (fun _ _ => rfl)
  have f1' : ∀ x, x ≠ 109 → x ≠ 110 → M1 x = M x := fun x a b => by rw [f1 x a, fil_o a]
  obtain ⟨M2, q2, Q2, e2, f2, k2⟩ := x_c43 (fk := 999999 - n) h hX1 n 0 0 M1 (fun _ => 0) (by omega) f1' w1 (Nat.le_refl _) (fun j hj => absurd hj (Nat.not_lt_zero _)) (fun a b h1 h2 => by omega) (fun t ht => absurd ht (Nat.not_lt_zero _))
  obtain ⟨M3, q, Q, r, e3, f3, k3⟩ := x_c78 (fk := 999749) h hX1 250 0 q2 M2 Q2 (fun _ => 1) (by omega) (Nat.zero_le _) f2 k2
  obtain ⟨k1, kk2, kk3, k4, k5, k6⟩ := k3
  have ef : xX10_canComeBack M = some (nI (if n ≤ q then 0 else 1), M3) := by
    unfold xX10_canComeBack
    rw [x_fil (by omega) (by omega), e_obv2, show fu = 999999 - ec + ec + 1 by unfold fu; omega, e1, show fu = 999999 - n + n + 1 by unfold fu; omega, e2, show fu = 999749 + 250 + 1 by unfold fu; omega, e3]
    unfold xX10_canComeBack_185
    rw [f3 100 (by omega) (by omega), h.2.2.1, e_oli2]
    by_cases c : n ≤ q
    · rw [if_pos (by rw [e_le (by omega) (by omega)]; exact c), if_pos c]
    · rw [if_neg (by rw [e_le (by omega) (by omega)]; exact c), if_neg c]
  refine ⟨_, M3, ef, f3, ?_⟩
  by_cases c : n ≤ q
  · rw [if_pos c]
    refine Or.inr ⟨rfl, fun hs => ?_⟩
    obtain ⟨x, x1, x2⟩ := hX2 hs
    have := q_room (fun j hj => (kk2 j hj).2.1) kk3 x1 (fun j hj w => (kk2 j hj).2.2 (by rw [w]; exact x2))
    omega
  · rw [if_neg c]
    refine Or.inl ⟨rfl, ?_⟩
    have hu : ∃ t, t < n ∧ ∀ j, j < q → Q j ≠ t := by
      apply Classical.byContradiction
      intro hn'
      have := sm_inj (R := fun t j => Q j = t) (n' := q) n (fun _ => 1) (fun _ => 1) (fun t ht => by
        apply Classical.byContradiction
        intro w
        exact hn' ⟨t, ht, fun j hj hq => w ⟨j, hj, hq, Nat.le_refl _⟩⟩) (fun s t s' _ _ h1 h2 => by rw [← h1, ← h2])
      rw [sm_1, sm_1] at this
      omega
    have hop : SCL n (fun x y => EE ec es et y x) := by
      obtain ⟨t0, t1, t2⟩ := hu
      refine ⟨fun t => ∀ j, j < q → Q j ≠ t, ⟨t0, t1, t2⟩, fun t ht hq => ?_⟩
      have hne : wsum ec et r t ≠ 0 := by
        intro w
        obtain ⟨j, j1, j2⟩ := (k6 t ht).1 w
        exact hq j j1 j2
      obtain ⟨e, e1', e2'⟩ := sm_pos ec hne
      have et_e : et e = t := by
        by_cases w : et e = t
        · exact w
        · simp only [if_neg w] at e2'
          exact absurd rfl e2'
      simp only [if_pos et_e] at e2'
      have ese := (h.2.2.2.2.1 e e1').2.2
      refine ⟨es e, ese, fun j hj w => e2' (((k5 e e1').2).2 (Or.inl ⟨j, hj, hj, w⟩)), e, e1', rfl, et_e⟩
    exact SCL_op hop
