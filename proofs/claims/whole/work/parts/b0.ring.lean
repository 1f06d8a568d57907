/-! ===== filling ===== -/
def FIL (M : j_M) (u i n : Nat) (v : Int32) : j_M := fun x j => if x = u ∧ i ≤ j ∧ j < n then v else M x j
theorem fil_o {M : j_M} {u i n x : Nat} {v : Int32} (h : x ≠ u) : FIL M u i n v x = M x := by
  funext j
  exact if_neg (fun q => h q.1)
theorem fil_r {M : j_M} {u n j : Nat} {v : Int32} (h : j < n) : FIL M u 0 n v u j = v := if_pos ⟨rfl, Nat.zero_le _, h⟩
theorem x_fil5 {u n k : Nat} {v : Int32} (hu : u ≠ 0) (hn : n < 2000) : ∀ (m i : Nat) (M : j_M), i + m = n → xJ7_fill_53178_5 n u (k + m + 1) v (nI i) (nI n) M = some (FIL M u i n v)
  | 0, i, M, h => by
    rw [show k + 0 + 1 = k + 1 from rfl, xJ7_fill_53178_5.eq_2, if_pos (by rw [e_le (by omega) (by omega)]; omega)]
    congr 1
    funext x j
    exact (if_neg (by omega)).symm
  | m + 1, i, M, h => by
    rw [show k + (m + 1) + 1 = (k + m + 1) + 1 by omega, xJ7_fill_53178_5.eq_2, if_neg (by rw [e_le (by omega) (by omega)]; omega), e_gd (by omega) (by omega), e_ix2 (by omega), e_oml2, e_add, x_fil5 hu hn m (i + 1) _ (by omega)]
    congr 1
    funext x j
    unfold FIL
    by_cases c : x = u ∧ i + 1 ≤ j ∧ j < n
    · rw [if_pos c, if_pos (by omega)]
    · rw [if_neg c]
      by_cases c2 : x = u ∧ j = i
      · rw [if_pos (by omega), c2.1, c2.2, mw_at hu]
      · rw [if_neg (by omega)]
        by_cases c3 : x = u
        · subst c3
          rw [mw_ne (by omega)]
        · rw [mw_oth c3]
theorem x_fil {u n : Nat} {v : Int32} {M : j_M} (hu : u ≠ 0) (hn : n < 2000) : xJ7_fill_53178 n u v M = some (FIL M u 0 n v) := by
  unfold xJ7_fill_53178
  rw [show fu = (999999 - n) + n + 1 by unfold fu; omega]
  exact x_fil5 hu hn n 0 M (by omega)
/-! ===== rings, as the class finds them ===== -/
/-- the edges as they lie in the walker -/
def WED (M : j_M) (n ec : Nat) (es et ee : Nat → Nat) : Prop := n ≤ 250 ∧ ec ≤ 6000 ∧ M 100 10 = nI n ∧ M 100 11 = nI ec ∧ (∀ i, i < ec → M 107 i = nI (et i) ∧ et i < n ∧ es i < n) ∧ (∀ t, t < n → M 108 t = nI (ee t) ∧ ee t ≤ ec ∧ stE ee t ≤ ee t) ∧ (∀ t, t < n → ∀ i, i < ec → (es i = t ↔ stE ee t ≤ i ∧ i < ee t))
theorem WED_e {M M' : j_M} {n ec : Nat} {es et ee : Nat → Nat} (h : WED M n ec es et ee) (h1 : M' 100 = M 100) (h2 : M' 107 = M 107) (h3 : M' 108 = M 108) : WED M' n ec es et ee := by
  unfold WED at h ⊢
  rw [h1, h2, h3]
  exact h
def wsum (ec : Nat) (et r : Nat → Nat) (t : Nat) : Nat := sm (fun e => if et e = t then r e else 0) ec
theorem x_c10 {n ec k : Nat} {es et ee : Nat → Nat} {M0 : j_M} (h0 : WED M0 n ec es et ee) : ∀ (m i : Nat) (M : j_M), i + m = ec → WED M n ec es et ee → (∀ t, t < n → M 109 t = nI (wsum i et (fun _ => 1) t)) → (∀ x, x ≠ 109 → M x = M0 x) → ∃ M', xX10_canComeBack_10 (k + m + 1) (nI i) M = xX10_canComeBack_43 fu (nI 0) (nI 0) M' ∧ (∀ t, t < n → M' 109 t = nI (wsum ec et (fun _ => 1) t)) ∧ (∀ x, x ≠ 109 → M' x = M0 x) := by
  intro m
  induction m with
  | zero =>
    intro i M hi h hw hx
    have : i = ec := by omega
    subst this
    refine ⟨M, ?_, hw, hx⟩
    rw [xX10_canComeBack_10.eq_2, h.2.2.2.1, e_oli2, if_pos (by rw [e_le (by have := h.2.1; omega) (by have := h.2.1; omega)]; omega)]
  | succ m ih =>
    intro i M hi h hw hx
    have hh := h
    obtain ⟨a1, a2, a3, a4, a5, a6, a7⟩ := hh
    obtain ⟨b1, b2, b3⟩ := a5 i (by omega)
    have hb := sm_le (g := fun e => if et e = et i then 1 else 0) (g' := fun _ => 1) i (fun j _ => by show (if et j = et i then 1 else 0) ≤ 1; split <;> omega)
    rw [sm_1] at hb
    have hnew : ∀ t, t < n → mw M 109 (et i) (nI (wsum i et (fun _ => 1) (et i) + 1)) 109 t = nI (wsum (i + 1) et (fun _ => 1) t) := by
      intro t ht
      have es1 : wsum (i + 1) et (fun _ => 1) t = wsum i et (fun _ => 1) t + if et i = t then 1 else 0 := rfl
      rw [es1]
      by_cases c : t = et i
      · rw [c, mw_at (by omega), if_pos rfl]
      · rw [mw_ne c, if_neg (fun q => c q.symm), Nat.add_zero]
        exact hw t ht
    obtain ⟨M', e1, e2, e3⟩ := ih (i + 1) (mw M 109 (et i) (nI (wsum i et (fun _ => 1) (et i) + 1))) (by omega) (WED_e h (mw_oth (by omega)) (mw_oth (by omega)) (mw_oth (by omega))) hnew (fun x hx' => by rw [mw_oth hx', hx x hx'])
    refine ⟨M', ?_, e2, e3⟩
    rw [← e1, show k + (m + 1) + 1 = (k + m + 1) + 1 by omega, xX10_canComeBack_10.eq_2, a4, e_oli2, if_neg (by rw [e_le (by omega) (by omega)]; omega), e_gd (by omega) (by omega), e_ix2 (by omega), b1, e_oli2, e_gd (by omega) (by omega), e_ix2 (by omega), hw (et i) b2, e_oli2, e_gd (by omega) (by omega), e_oml2, e_add, e_add]
/-- Kahn's way: q are in the row Q, i of them are gone through, of the i-th the edges below k -/
def KI (M : j_M) (n ec : Nat) (es et : Nat → Nat) (X : Nat → Prop) (q i k : Nat) (Q r : Nat → Nat) : Prop :=
  q ≤ n ∧ (∀ j, j < q → M 110 j = nI (Q j) ∧ Q j < n ∧ ¬ X (Q j)) ∧ (∀ a b, a < b → b < q → Q a ≠ Q b) ∧ (∀ t, t < n → M 109 t = nI (wsum ec et r t)) ∧ (∀ e, e < ec → r e ≤ 1 ∧ (r e = 0 ↔ (∃ j, j < i ∧ j < q ∧ Q j = es e) ∨ (i < q ∧ Q i = es e ∧ e < k))) ∧ (∀ t, t < n → (wsum ec et r t = 0 ↔ ∃ j, j < q ∧ Q j = t))
theorem wsum_le {ec : Nat} {et r : Nat → Nat} {t : Nat} (h : ∀ e, e < ec → r e ≤ 1) : wsum ec et r t ≤ ec := by
  have := sm_le (g := fun e => if et e = t then r e else 0) (g' := fun _ => 1) ec (fun j hj => by
    show (if et j = t then r j else 0) ≤ 1
    have := h j hj
    split <;> omega)
  rw [sm_1] at this
  exact this
/-- all distinct below n, and one more that is new: there is room -/
theorem q_room {n q t : Nat} {Q : Nat → Nat} (h1 : ∀ j, j < q → Q j < n) (h2 : ∀ a b, a < b → b < q → Q a ≠ Q b) (ht : t < n) (hn : ∀ j, j < q → Q j ≠ t) : q + 1 ≤ n := by
  refine php n (q + 1) (fun j => if j < q then Q j else t) (fun j hj => ?_) (fun a b h3 h4 => ?_)
  · by_cases c : j < q
    · simp only [if_pos c]; exact h1 j c
    · simp only [if_neg c]; exact ht
  · by_cases c : b < q
    · simp only [if_pos c, if_pos (show a < q by omega)]; exact h2 a b h3 c
    · simp only [if_neg c, if_pos (show a < q by omega)]; exact hn a (by omega)
theorem x_c115 {n ec fk s i : Nat} {es et ee : Nat → Nat} {X : Nat → Prop} {M0 : j_M} (h0 : WED M0 n ec es et ee) (hX : ∀ x, x < n → X x → ∃ y, y < n ∧ X y ∧ EE ec es et y x) (hs : s < n) (K78 : Int32 → Int32 → j_M → Option (Int32 × j_M)) : ∀ (m k q : Nat) (M : j_M) (Q r : Nat → Nat), k + m = ee s → stE ee s ≤ k → (∀ x, x ≠ 109 → x ≠ 110 → M x = M0 x) → i < q → Q i = s → KI M n ec es et X q i k Q r → ∃ M' q' Q' r', xX10_canComeBack_115 K78 (fk + m + 1) (nI q) (nI i) (nI s) (nI k) M = K78 (nI q') (nI (i + 1)) M' ∧ (∀ x, x ≠ 109 → x ≠ 110 → M' x = M0 x) ∧ i < q' ∧ q ≤ q' ∧ KI M' n ec es et X q' (i + 1) 0 Q' r' := by
  intro m
  induction m with
  | zero =>
    intro k q M Q r hk hst hx hi hQ hK
    have hE : WED M n ec es et ee := WED_e h0 (hx 100 (by omega) (by omega)) (hx 107 (by omega) (by omega)) (hx 108 (by omega) (by omega))
    obtain ⟨a1, a2, a3, a4, a5, a6, a7⟩ := hE
    obtain ⟨k1, k2, k3, k4, k5, k6⟩ := hK
    have hes := a6 s hs
    refine ⟨M, q, Q, r, ?_, hx, hi, Nat.le_refl _, k1, k2, k3, k4, fun e he => ⟨(k5 e he).1, ?_⟩, k6⟩
    · rw [xX10_canComeBack_115.eq_2, e_gd (by omega) (by omega), e_ix2 (by omega), hes.1, e_oli2, if_pos (by rw [e_le (by omega) (by omega)]; omega), e_add]
    · rw [(k5 e he).2]
      constructor
      · rintro (⟨j, j1, j2, j3⟩ | ⟨c1, c2, c3⟩)
        · exact Or.inl ⟨j, by omega, j2, j3⟩
        · exact Or.inl ⟨i, by omega, hi, c2⟩
      · rintro (⟨j, j1, j2, j3⟩ | ⟨c1, c2, c3⟩)
        · by_cases w : j = i
          · subst w
            have := (a7 s hs e he).1 (by rw [← j3, hQ])
            exact Or.inr ⟨hi, j3, by omega⟩
          · exact Or.inl ⟨j, by omega, j2, j3⟩
        · omega
  | succ m ih =>
    intro k q M Q r hk hst hx hi hQ hK
    have hE : WED M n ec es et ee := WED_e h0 (hx 100 (by omega) (by omega)) (hx 107 (by omega) (by omega)) (hx 108 (by omega) (by omega))
    obtain ⟨a1, a2, a3, a4, a5, a6, a7⟩ := hE
    have hK0 := hK
    obtain ⟨k1, k2, k3, k4, k5, k6⟩ := hK
    have hes := a6 s hs
    have hke : k < ec := by omega
    obtain ⟨b1, b2, b3⟩ := a5 k hke
    have hesk : es k = s := (a7 s hs k hke).2 ⟨hst, by omega⟩
    have rk : r k = 1 := by
      have h1 := k5 k hke
      have : ¬ r k = 0 := by
        rw [h1.2]
        rintro (⟨j, j1, j2, j3⟩ | ⟨c1, c2, c3⟩)
        · exact k3 j i j1 hi (by rw [j3, hesk, hQ])
        · omega
      omega
    let r' : Nat → Nat := fun e => if e = k then 0 else r e
    have hsum : ∀ t, wsum ec et r' t + (if et k = t then 1 else 0) = wsum ec et r t := by
      intro t
      unfold wsum
      have := sm_one (g := fun e => if et e = t then r e else 0) (g' := fun e => if et e = t then r' e else 0) (k := k) ec hke (fun e _ hne => by
        show (if et e = t then (if e = k then 0 else r e) else 0) = _
        rw [if_neg hne])
      have e1 : (if et k = t then r' k else 0) = 0 := by
        show (if et k = t then (if k = k then 0 else r k) else 0) = 0
        rw [if_pos rfl]
        split <;> rfl
      have e2 : (if et k = t then r k else 0) = if et k = t then 1 else 0 := by rw [rk]
      rw [e1, e2] at this
      omega
    have hle := wsum_le (et := et) (t := et k) (fun e he => (k5 e he).1)
    have hpos := hsum (et k)
    rw [if_pos rfl] at hpos
    have hr' : ∀ e, e < ec → r' e ≤ 1 ∧ (r' e = 0 ↔ (∃ j, j < i ∧ j < q ∧ Q j = es e) ∨ (i < q ∧ Q i = es e ∧ e < k + 1)) := by
      intro e he
      show (if e = k then 0 else r e) ≤ 1 ∧ ((if e = k then 0 else r e) = 0 ↔ _)
      by_cases c : e = k
      · rw [if_pos c]
        exact ⟨by omega, fun _ => Or.inr ⟨hi, by rw [c, hesk, hQ], by omega⟩, fun _ => rfl⟩
      · rw [if_neg c]
        refine ⟨(k5 e he).1, ?_⟩
        rw [(k5 e he).2]
        constructor
        · rintro (h | ⟨c1, c2, c3⟩)
          · exact Or.inl h
          · exact Or.inr ⟨c1, c2, by omega⟩
        · rintro (h | ⟨c1, c2, c3⟩)
          · exact Or.inl h
          · exact Or.inr ⟨c1, c2, by omega⟩
    have st : xX10_canComeBack_115 K78 (fk + (m + 1) + 1) (nI q) (nI i) (nI s) (nI k) M = if wsum ec et r' (et k) = 0 then gd (nI q) 250 (oml (mw (mw M 109 (et k) (nI (wsum ec et r' (et k)))) 110 (ix (nI q)) (nI (et k))) fun M8 => xX10_canComeBack_115 K78 (fk + m + 1) (nI (q + 1)) (nI i) (nI s) (nI (k + 1)) M8) else xX10_canComeBack_115 K78 (fk + m + 1) (nI q) (nI i) (nI s) (nI (k + 1)) (mw M 109 (et k) (nI (wsum ec et r' (et k)))) := by
      rw [show fk + (m + 1) + 1 = (fk + m + 1) + 1 by omega, xX10_canComeBack_115.eq_2, e_gd (by omega) (by omega), e_ix2 (by omega), hes.1, e_oli2, if_neg (by rw [e_le (by omega) (by omega)]; omega), e_gd (by omega) (by omega), e_ix2 (by omega), b1, e_oli2, e_gd (by omega) (by omega), e_ix2 (by omega), k4 (et k) b2, e_oli2, e_gd (by omega) (by omega), ← hpos, e_sub (by omega), Nat.add_sub_cancel, e_oml2, e_gd (by omega) (by omega), mw_oth (by omega), b1, e_oli2, e_gd (by omega) (by omega), e_ix2 (by omega), mw_at (by omega), e_oli2, e_gd (by omega) (by omega), e_oli2, e_add, e_add]
      by_cases c : wsum ec et r' (et k) = 0
      · rw [if_pos c, if_pos (by rw [c]; decide)]
      · rw [if_neg c, if_neg (by rw [e_eq0 (by omega)]; exact c)]
    rw [st]
    have hW : ∀ t, t < n → mw M 109 (et k) (nI (wsum ec et r' (et k))) 109 t = nI (wsum ec et r' t) := by
      intro t ht
      by_cases c : t = et k
      · rw [c, mw_at (by omega)]
      · rw [mw_ne c, k4 t ht]
        have := hsum t
        rw [if_neg (fun w => c w.symm)] at this
        rw [← this, Nat.add_zero]
    by_cases c : wsum ec et r' (et k) = 0
    · rw [if_pos c]
      have nq : ∀ j, j < q → Q j ≠ et k := by
        intro j hj hq
        have := (k6 (et k) b2).2 ⟨j, hj, hq⟩
        omega
      have room := q_room (fun j hj => (k2 j hj).2.1) k3 b2 nq
      rw [e_gd (by omega) (by omega), e_ix2 (by omega), e_oml2]
      let Q' : Nat → Nat := fun j => if j = q then et k else Q j
      have Qo : ∀ j, j < q → Q' j = Q j := fun j hj => if_neg (by omega)
      have Qn : Q' q = et k := if_pos rfl
      have nX : ¬ X (et k) := by
        intro hx'
        obtain ⟨y, y1, y2, e, e1, e2, e3⟩ := hX (et k) b2 hx'
        have re : r' e = 0 := by
          have hz : ∀ (g : Nat → Nat) (nn : Nat), sm g nn = 0 → ∀ j, j < nn → g j = 0 := by
            intro g nn
            induction nn with
            | zero => intro _ j hj; omega
            | succ nn ihn =>
              intro h j hj
              rw [sm_s] at h
              by_cases w : j = nn
              · rw [w]; omega
              · exact ihn (by omega) j (by omega)
          have := hz _ ec c e e1
          simp only [if_pos e3] at this
          exact this
        rcases ((hr' e e1).2).1 re with ⟨j, j1, j2, j3⟩ | ⟨c1, c2, c3⟩
        · exact (k2 j j2).2.2 (by rw [j3, e2]; exact y2)
        · exact (k2 i hi).2.2 (by rw [c2, e2]; exact y2)
      have hKI : KI (mw (mw M 109 (et k) (nI (wsum ec et r' (et k)))) 110 q (nI (et k))) n ec es et X (q + 1) i (k + 1) Q' r' := by
        refine ⟨room, fun j hj => ?_, fun a b h1 h2 => ?_, fun t ht => by rw [mw_oth (by omega)]; exact hW t ht, fun e he => ⟨(hr' e he).1, ?_⟩, fun t ht => ?_⟩
        · by_cases w : j = q
          · rw [w, Qn, mw_at (by omega)]
            exact ⟨rfl, b2, nX⟩
          · rw [Qo j (by omega), mw_ne w, mw_oth (by omega)]
            exact k2 j (by omega)
        · by_cases w : b = q
          · rw [w, Qn, Qo a (by omega)]
            exact nq a (by omega)
          · rw [Qo a (by omega), Qo b (by omega)]
            exact k3 a b h1 (by omega)
        · rw [(hr' e he).2]
          constructor
          · rintro (⟨j, j1, j2, j3⟩ | ⟨c1, c2, c3⟩)
            · exact Or.inl ⟨j, j1, by omega, by rw [Qo j j2]; exact j3⟩
            · exact Or.inr ⟨by omega, by rw [Qo i hi]; exact c2, c3⟩
          · rintro (⟨j, j1, j2, j3⟩ | ⟨c1, c2, c3⟩)
            · exact Or.inl ⟨j, j1, by omega, by rw [← Qo j (by omega)]; exact j3⟩
            · exact Or.inr ⟨hi, by rw [← Qo i hi]; exact c2, c3⟩
        · have h1 := hsum t
          by_cases w : t = et k
          · subst w
            constructor
            · intro _; exact ⟨q, by omega, Qn⟩
            · intro _; exact c
          · rw [if_neg (fun v => w v.symm), Nat.add_zero] at h1
            rw [h1, k6 t ht]
            constructor
            · rintro ⟨j, j1, j2⟩
              exact ⟨j, by omega, by rw [Qo j j1]; exact j2⟩
            · rintro ⟨j, j1, j2⟩
              by_cases v : j = q
              · rw [v, Qn] at j2
                exact absurd j2.symm w
              · exact ⟨j, by omega, by rw [← Qo j (by omega)]; exact j2⟩
      obtain ⟨M', q', Q'', r'', g1, g2, g3, g3', g4⟩ := ih (k + 1) (q + 1) (mw (mw M 109 (et k) (nI (wsum ec et r' (et k)))) 110 q (nI (et k))) Q' r' (by omega) (by omega) (fun x x1 x2 => by rw [mw_oth x2, mw_oth x1, hx x x1 x2]) (by omega) (by rw [Qo i hi, hQ]) hKI
      exact ⟨M', q', Q'', r'', g1, g2, g3, by omega, g4⟩
    · rw [if_neg c]
      refine ih (k + 1) q (mw M 109 (et k) (nI (wsum ec et r' (et k)))) Q r' (by omega) (by omega) (fun x x1 x2 => by rw [mw_oth x1, hx x x1 x2]) hi hQ ⟨k1, fun j hj => by rw [mw_oth (by omega)]; exact k2 j hj, k3, hW, hr', fun t ht => ?_⟩
      have h1 := hsum t
      by_cases w : t = et k
      · subst w
        rw [if_pos rfl] at h1
        constructor
        · intro h2; exact absurd h2 c
        · intro h2
          have := (k6 (et k) ht).2 h2
          omega
      · rw [if_neg (fun v => w v.symm), Nat.add_zero] at h1
        rw [h1]
        exact k6 t ht
