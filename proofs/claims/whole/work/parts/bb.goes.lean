/-! ===== the reference looks for a way round ===== -/
def GE (M : j_M) (n ec : Nat) (es et : Nat → Nat) : Prop := n ≤ 250 ∧ ec ≤ 6000 ∧ M 200 29 = nI n ∧ M 200 30 = nI ec ∧ ∀ e, e < ec → M 213 e = nI (es e) ∧ M 214 e = nI (et e) ∧ es e < n ∧ et e < n
def GL (M : j_M) (n : Nat) (L : Nat → Nat) : Prop := ∀ t, t < n → M 215 t = nI (L t) ∧ L t ≤ 1
theorem GE_e {M M' : j_M} {n ec : Nat} {es et : Nat → Nat} (h : GE M n ec es et) (hx : ∀ x, x ≠ 215 → M' x = M x) : GE M' n ec es et := by
  obtain ⟨a1, a2, a3, a4, a5⟩ := h
  refine ⟨a1, a2, by rw [hx 200 (by omega)]; exact a3, by rw [hx 200 (by omega)]; exact a4, fun e he => by rw [hx 213 (by omega), hx 214 (by omega)]; exact a5 e he⟩
theorem or_0 {z : Nat} (h : z ≤ 1) : nI z ||| nI 0 = nI z := by
  rcases Nat.lt_or_ge z 1 with c | c
  · rw [show z = 0 by omega]; decide
  · rw [show z = 1 by omega]; decide
theorem or_1 {z : Nat} (h : z ≤ 1) : nI z ||| nI 1 = nI 1 := by
  rcases Nat.lt_or_ge z 1 with c | c
  · rw [show z = 0 by omega]; decide
  · rw [show z = 1 by omega]; decide
theorem r_g52 {M : j_M} {n ec s f : Nat} {es et L : Nat → Nat} (h : GE M n ec es et) (hL : GL M n L) (hs : s < n) (k30 : Int32 → Int32 → j_M → Option (Int32 × j_M)) (k38 : Int32 → Int32 → Int32 → j_M → Option (Int32 × j_M)) (l1 l2 : Int32) : ∀ (m e z : Nat), e + m = ec → z ≤ 1 → (z ≠ 0 ↔ ∃ i, i < e ∧ es i = s ∧ L (et i) = 1) → ∃ z', z' ≤ 1 ∧ (z' ≠ 0 ↔ ∃ i, i < ec ∧ es i = s ∧ L (et i) = 1) ∧ xX12_goesRound_52 k30 k38 (f + m + 1) l1 l2 (nI s) (nI z) (nI e) M = if L s = 0 ∨ z' ≠ 0 then k38 l1 l2 (nI (s + 1)) M else k38 (l1 + (-1 : Int32)) (nI 1) (nI (s + 1)) (mw M 215 s (nI 0)) := by
  obtain ⟨a1, a2, a3, a4, a5⟩ := h
  intro m
  induction m with
  | zero =>
    intro e z he hz hq
    have : e = ec := by omega
    subst this
    refine ⟨z, hz, hq, ?_⟩
    have ls := hL s hs
    rw [xX12_goesRound_52.eq_2, a4, e_oli2, if_pos (by rw [e_le (by omega) (by omega)]; omega), e_gd (by omega) (by omega), e_ix2 (by omega), ls.1, e_oli2, e_add, e_gd (by omega) (by omega), e_oml2]
    by_cases c : L s = 0
    · rw [if_pos (by rw [c]; decide), if_pos (Or.inl c)]
    · rw [if_neg (by rw [e_eq0 (by omega)]; exact c)]
      by_cases c2 : z = 0
      · rw [if_pos (by rw [c2]; decide), if_neg (by omega)]
      · rw [if_neg (by rw [e_eq0 (by omega)]; exact c2), if_pos (Or.inr c2)]
  | succ m ih =>
    intro e z he hz hq
    obtain ⟨b1, b2, b3, b4⟩ := a5 e (by omega)
    have lt := hL (et e) b4
    have st : xX12_goesRound_52 k30 k38 (f + (m + 1) + 1) l1 l2 (nI s) (nI z) (nI e) M = xX12_goesRound_52 k30 k38 (f + m + 1) l1 l2 (nI s) (nI (if es e = s ∧ L (et e) = 1 then 1 else z)) (nI (e + 1)) M := by
      rw [show f + (m + 1) + 1 = (f + m + 1) + 1 by omega, xX12_goesRound_52.eq_2, a4, e_oli2, if_neg (by rw [e_le (by omega) (by omega)]; omega), e_gd (by omega) (by omega), e_ix2 (by omega), b1, e_oli2, e_gd (by omega) (by omega), b2, e_oli2, e_gd (by omega) (by omega), e_ix2 (by omega), lt.1, e_oli2]
      unfold xX12_goesRound_94 xX12_goesRound_95
      rw [or_0 hz, or_1 hz, e_add]
      by_cases c1 : es e = s
      · rw [if_pos (by rw [c1])]
        by_cases c2 : L (et e) = 1
        · rw [if_pos (by rw [c2]), if_pos ⟨c1, c2⟩]
        · rw [if_neg (by rw [e_eq (by omega) (by omega)]; exact c2), if_neg (fun q => c2 q.2)]
      · rw [if_neg (by rw [e_eq (by omega) (by omega)]; exact c1), if_neg (fun q => c1 q.1)]
    rw [st]
    refine ih (e + 1) _ (by omega) (by split <;> omega) ?_
    by_cases c : es e = s ∧ L (et e) = 1
    · rw [if_pos c]
      exact ⟨fun _ => ⟨e, by omega, c⟩, fun _ => by omega⟩
    · rw [if_neg c, hq]
      constructor
      · rintro ⟨i, i1, i2⟩
        exact ⟨i, by omega, i2⟩
      · rintro ⟨i, i1, i2⟩
        by_cases w : i = e
        · rw [w] at i2; exact absurd i2 c
        · exact ⟨i, by omega, i2⟩
theorem r_g38 {n ec f A : Nat} {es et : Nat → Nat} {X : Nat → Prop} (hX : ∀ x, x < n → X x → ∃ y, y < n ∧ X y ∧ EE ec es et x y) (k30 : Int32 → Int32 → j_M → Option (Int32 × j_M)) : ∀ (m s q : Nat) (M : j_M) (L : Nat → Nat), s + m = n → GE M n ec es et → GL M n L → (∀ x, x < n → X x → L x = 1) → q ≤ 1 → (q = 0 → ∀ t, t < s → L t = 1 → ∃ y, y < n ∧ L y = 1 ∧ EE ec es et t y) → sm L n + q ≤ A → ∃ M' L' q', xX12_goesRound_38 k30 (f + m + 1) (nI (sm L n)) (nI q) (nI s) M = k30 (nI (sm L' n)) (nI q') M' ∧ (∀ x, x ≠ 215 → M' x = M x) ∧ GL M' n L' ∧ (∀ x, x < n → X x → L' x = 1) ∧ q' ≤ 1 ∧ (q' = 0 → ∀ t, t < n → L' t = 1 → ∃ y, y < n ∧ L' y = 1 ∧ EE ec es et t y) ∧ sm L' n + q' ≤ A := by
  intro m
  induction m with
  | zero =>
    intro s q M L hs h hL hXL hq hc hA
    have : s = n := by omega
    subst this
    have h250 := h.1
    refine ⟨M, L, q, ?_, fun _ _ => rfl, hL, hXL, hq, hc, hA⟩
    rw [xX12_goesRound_38.eq_2, h.2.2.1, e_oli2, if_pos (by rw [e_le (by omega) (by omega)]; omega)]
  | succ m ih =>
    intro s q M L hs h hL hXL hq hc hA
    have h250 := h.1
    have h6 := h.2.1
    have hsn : s < n := by omega
    obtain ⟨z, z1, z2, e1⟩ := r_g52 (f := 999999 - ec) h hL hsn k30 (xX12_goesRound_38 k30 (f + m + 1)) (nI (sm L n)) (nI q) ec 0 0 (by omega) (by omega) ⟨fun w => absurd rfl w, fun ⟨i, hi, _⟩ => absurd hi (Nat.not_lt_zero _)⟩
    have st : xX12_goesRound_38 k30 (f + (m + 1) + 1) (nI (sm L n)) (nI q) (nI s) M = if L s = 0 ∨ z ≠ 0 then xX12_goesRound_38 k30 (f + m + 1) (nI (sm L n)) (nI q) (nI (s + 1)) M else xX12_goesRound_38 k30 (f + m + 1) (nI (sm L n) + (-1 : Int32)) (nI 1) (nI (s + 1)) (mw M 215 s (nI 0)) := by
      rw [show f + (m + 1) + 1 = (f + m + 1) + 1 by omega, xX12_goesRound_38.eq_2, h.2.2.1, e_oli2, if_neg (by rw [e_le (by omega) (by omega)]; omega), show fu = 999999 - ec + ec + 1 by unfold fu; omega, e1]
    rw [st]
    by_cases c : L s = 0 ∨ z ≠ 0
    · rw [if_pos c]
      refine ih (s + 1) q M L (by omega) h hL hXL hq (fun q0 t ht hl => ?_) hA
      by_cases w : t = s
      · subst w
        obtain ⟨i, i1, i2, i3⟩ := z2.1 (by omega)
        exact ⟨et i, (h.2.2.2.2 i i1).2.2.2, i3, i, i1, i2, rfl⟩
      · exact hc q0 t (by omega) hl
    · rw [if_neg c]
      have ls := (hL s hsn).2
      have l1 : L s = 1 := by omega
      have hsm := sm_one (g := L) (g' := dup L s 0) (k := s) n hsn (fun i _ hi => if_neg hi)
      have ds : dup L s 0 s = 0 := if_pos rfl
      rw [ds, l1] at hsm
      have nX : ¬ X s := by
        intro hx
        obtain ⟨y, y1, y2, e, f1, f2, f3⟩ := hX s hsn hx
        have : z ≠ 0 := z2.2 ⟨e, f1, f2, by rw [f3]; exact hXL y y1 y2⟩
        exact c (Or.inr this)
      have hL' : GL (mw M 215 s (nI 0)) n (dup L s 0) := by
        intro t ht
        unfold dup
        by_cases w : t = s
        · rw [w, mw_at (by omega), if_pos rfl]
          exact ⟨rfl, by omega⟩
        · rw [mw_ne w, if_neg w]
          exact hL t ht
      obtain ⟨M', L', q', g1, g2, g3⟩ := ih (s + 1) 1 (mw M 215 s (nI 0)) (dup L s 0) (by omega) (GE_e h (fun x hx => mw_oth hx)) hL' (fun x hx hxX => by
        unfold dup
        rw [if_neg (fun w => nX (by rw [← w]; exact hxX))]
        exact hXL x hx hxX) (by omega) (fun w => by omega) (by omega)
      refine ⟨M', L', q', ?_, fun x hx => by rw [g2 x hx, mw_oth hx], g3⟩
      rw [← g1, show sm L n = sm (dup L s 0) n + 1 by omega, nI_prm]
theorem r_g30 {n ec f : Nat} {es et : Nat → Nat} {X : Nat → Prop} (hX : ∀ x, x < n → X x → ∃ y, y < n ∧ X y ∧ EE ec es et x y) (hX2 : SCL n (EE ec es et) → ∃ x, x < n ∧ X x) : ∀ (A : Nat) (M : j_M) (L : Nat → Nat), sm L n ≤ A → GE M n ec es et → GL M n L → (∀ x, x < n → X x → L x = 1) → ∃ z M', xX12_goesRound_30 (f + A + 2) (nI (sm L n)) (nI 1) M = some (nI z, M') ∧ (∀ x, x ≠ 215 → M' x = M x) ∧ ((z = 1 ∧ SCL n (EE ec es et)) ∨ (z = 0 ∧ ¬ SCL n (EE ec es et))) := by
  intro A
  induction A using Nat.strongRecOn with
  | _ A ih =>
    intro M L hA h hL hXL
    have h250 := h.1
    obtain ⟨M1, L1, q, g1, g2, g3, g4, g5, g6, g7⟩ := r_g38 (f := 999999 - n) (A := sm L n) hX (xX12_goesRound_30 (f + A + 1)) n 0 0 M L (by omega) h hL hXL (by omega) (fun _ t ht => absurd ht (Nat.not_lt_zero _)) (by omega)
    have st : xX12_goesRound_30 (f + A + 2) (nI (sm L n)) (nI 1) M = xX12_goesRound_30 (f + A + 1) (nI (sm L1 n)) (nI q) M1 := by
      rw [show f + A + 2 = (f + A + 1) + 1 by omega, xX12_goesRound_30.eq_2, if_neg (by decide), show fu = 999999 - n + n + 1 by unfold fu; omega, g1]
    have hle := sm_le (g := L1) (g' := fun _ => 1) n (fun j hj => (g3 j hj).2)
    rw [sm_1] at hle
    rw [st]
    by_cases c : q = 0
    · subst c
      by_cases c2 : sm L1 n = 0
      · refine ⟨0, M1, ?_, g2, Or.inr ⟨rfl, fun hs => ?_⟩⟩
        · rw [xX12_goesRound_30.eq_2, if_pos (by decide), if_pos (by rw [c2]; decide)]
        · obtain ⟨x, x1, x2⟩ := hX2 hs
          have := sm_z n L1 c2 x x1
          have := g4 x x1 x2
          omega
      · refine ⟨1, M1, ?_, g2, Or.inl ⟨rfl, fun t => L1 t = 1, ?_, fun x x1 x2 => g6 rfl x x1 x2⟩⟩
        · rw [xX12_goesRound_30.eq_2, if_pos (by decide), if_neg (by rw [e_le0 (by omega)]; omega)]
        · obtain ⟨i, i1, i2⟩ := sm_pos n c2
          have := (g3 i i1).2
          exact ⟨i, i1, by show L1 i = 1; omega⟩
    · have q1 : q = 1 := by omega
      subst q1
      obtain ⟨z, M', k1, k2, k3⟩ := ih (A - 1) (by omega) M1 L1 (by omega) (GE_e h g2) g3 g4
      refine ⟨z, M', ?_, fun x hx => by rw [k2 x hx, g2 x hx], k3⟩
      rw [← k1, show f + (A - 1) + 2 = f + A + 1 by omega]
theorem r_g7 {n ec f : Nat} {es et : Nat → Nat} : ∀ (m s : Nat) (M : j_M), s + m = n → GE M n ec es et → (∀ t, t < s → M 215 t = nI 1) → ∃ M', xX12_goesRound_7 (f + m + 1) (nI n) (nI s) M = xX12_goesRound_30 fu (nI n) (nI 1) M' ∧ (∀ x, x ≠ 215 → M' x = M x) ∧ GL M' n (fun _ => 1) := by
  intro m
  induction m with
  | zero =>
    intro s M hs h hl
    have : s = n := by omega
    subst this
    have h250 := h.1
    refine ⟨M, ?_, fun _ _ => rfl, fun t ht => ⟨hl t ht, Nat.le_refl _⟩⟩
    rw [xX12_goesRound_7.eq_2, h.2.2.1, e_oli2, if_pos (by rw [e_le (by omega) (by omega)]; omega)]
  | succ m ih =>
    intro s M hs h hl
    have h250 := h.1
    obtain ⟨M', g1, g2, g3⟩ := ih (s + 1) (mw M 215 s (nI 1)) (by omega) (GE_e h (fun x hx => mw_oth hx)) (fun t ht => by
      by_cases w : t = s
      · rw [w, mw_at (by omega)]
      · rw [mw_ne w]; exact hl t (by omega))
    refine ⟨M', ?_, fun x hx => by rw [g2 x hx, mw_oth hx], g3⟩
    rw [show f + (m + 1) + 1 = (f + m + 1) + 1 by omega, xX12_goesRound_7.eq_2, h.2.2.1, e_oli2, if_neg (by rw [e_le (by omega) (by omega)]; omega), e_gd (by omega) (by omega), e_ix2 (by omega), e_oml2, e_add, g1]
theorem r_goes {M : j_M} {n ec : Nat} {es et : Nat → Nat} (h : GE M n ec es et) : ∃ z M', xX12_goesRound M = some (nI z, M') ∧ (∀ x, x ≠ 215 → M' x = M x) ∧ ((z = 1 ∧ SCL n (EE ec es et)) ∨ (z = 0 ∧ ¬ SCL n (EE ec es et))) := by
  have hX : ∃ X : Nat → Prop, (∀ x, x < n → X x → ∃ y, y < n ∧ X y ∧ EE ec es et x y) ∧ (SCL n (EE ec es et) → ∃ x, x < n ∧ X x) := by
    by_cases c : SCL n (EE ec es et)
    · obtain ⟨X, x1, x2⟩ := c
      exact ⟨X, x2, fun _ => x1⟩
    · exact ⟨fun _ => False, fun _ _ w => w.elim, fun w => absurd w c⟩
  obtain ⟨X, hX1, hX2⟩ := hX
  have h250 := h.1
  obtain ⟨M1, g1, g2, g3⟩ := r_g7 (f := 999999 - n) n 0 M (by omega) h (fun t ht => absurd ht (Nat.not_lt_zero _))
  have e1 : sm (fun _ => 1) n = n := sm_1 n
  obtain ⟨z, M', k1, k2, k3⟩ := r_g30 (f := 999998 - n) hX1 hX2 n M1 (fun _ => 1) (by omega) (GE_e h g2) g3 (fun _ _ _ => rfl)
  refine ⟨z, M', ?_, fun x hx => by rw [k2 x hx, g2 x hx], k3⟩
  unfold xX12_goesRound
  rw [h.2.2.1, e_oli2, show fu = 999999 - n + n + 1 by unfold fu; omega, g1, show fu = 999998 - n + n + 2 by unfold fu; omega, ← k1, e1]
