/-! ===== reading on: the class ===== -/
def CS (M : j_M) (T : Nat → Nat) (n p : Nat) : Prop := TC M T n ∧ M 28 9 = nI p ∧ M 28 5 = nI 0 ∧ p ≤ n ∧ M 28 6 = -1
def CF (M : j_M) (f pl : Nat) : Prop := M 28 5 = nI f ∧ M 28 6 = nI pl
/-- the reader's tokens and fault apart, nothing changed -/
def FK (M M' : j_M) : Prop := (∀ x, x ≠ 28 → M' x = M x) ∧ (∀ j, j < 9 → j ≠ 5 → j ≠ 6 → M' 28 j = M 28 j)
theorem FK_r {M : j_M} : FK M M := ⟨fun _ _ => rfl, fun _ _ _ _ => rfl⟩
theorem FK_t {M M' M'' : j_M} (h : FK M M') (h2 : FK M' M'') : FK M M'' := ⟨fun x hx => by rw [h2.1 x hx, h.1 x hx], fun j a b c => by rw [h2.2 j a b c, h.2 j a b c]⟩
theorem FK_tok {M M' : j_M} {k v pl nx : Nat} (h : TOKC M M' k v pl nx) : FK M M' := ⟨h.2.2.2.2.1, fun j a _ _ => h.2.2.2.2.2 j a⟩
theorem TC_k {M M' : j_M} {T : Nat → Nat} {n : Nat} (h : TC M T n) (hk : FK M M') : TC M' T n :=
  ⟨h.1, by rw [hk.2 4 (by omega) (by omega) (by omega)]; exact h.2.1, fun i hi => by rw [hk.1 29 (by omega)]; exact h.2.2 i hi⟩
theorem CS_tok {M M' : j_M} {T : Nat → Nat} {n p k v pl nx : Nat} (h : CS M T n p) (ht : TOKC M M' k v pl nx) (hn : nx ≤ n) : CS M' T n nx :=
  ⟨TC_k h.1 (FK_tok ht), ht.1, by rw [ht.2.2.2.2.2 5 (by omega)]; exact h.2.2.1, hn, by rw [ht.2.2.2.2.2 6 (by omega)]; exact h.2.2.2.2⟩
theorem x_refuse {M : j_M} {f pl : Nat} (h : M 28 12 = nI pl) : ∃ M', xX8_refuse (nI f) M = some M' ∧ CF M' f pl ∧ FK M M' ∧ (∀ j, 6 < j → M' 28 j = M 28 j) := by
  unfold xX8_refuse
  rw [e_oml2, mw_ne (by omega), h, e_oli2, e_oml2]
  refine ⟨_, rfl, ⟨?_, mw_at (by omega)⟩, ⟨fun x hx => ?_, fun j a b c => ?_⟩, fun j hj => ?_⟩
  · rw [mw_ne (by omega), mw_at (by omega)]
  · rw [mw_oth hx, mw_oth hx]
  · rw [mw_ne c, mw_ne b]
  · rw [mw_ne (by omega), mw_ne (by omega)]
theorem x_expect {M : j_M} {T : Nat → Nat} {n p k v pl nx K : Nat} (h : CS M T n p) (hx : LEX T n p k v pl nx) (hK : K < 7) : ∃ M', xX8_expect (nI K) M = some M' ∧ FK M M' ∧ (k = K → CS M' T n nx) ∧ (k ≠ K → CF M' 1 pl) := by
  have hb := LEX_b hx h.2.2.2.1
  obtain ⟨M1, e1, t1⟩ := x_readToken h.1 h.2.1 h.2.2.2.1 hx
  unfold xX8_expect
  rw [h.2.2.1, e_oli2, if_pos (by decide), e1, e_obv2, t1.2.1, e_oli2]
  simp (disch := omega) only [e_eq]
  by_cases c : k = K
  · rw [if_pos c]
    exact ⟨M1, rfl, FK_tok t1, fun _ => CS_tok h t1 (by omega), fun q => absurd c q⟩
  · obtain ⟨M2, e2, c2, k2, _⟩ := x_refuse (f := 1) t1.2.2.1
    rw [if_neg c, e2, e_obv2]
    exact ⟨M2, rfl, FK_t (FK_tok t1) k2, fun q => absurd q c, fun _ => c2⟩
/-- behind a fault nothing is read -/
theorem x_expectF {M : j_M} {f pl : Nat} {a : Int32} (h : CF M f pl) (hf : f ≠ 0) (hf2 : f < 10) : xX8_expect a M = some M := by
  unfold xX8_expect
  rw [h.1, e_oli2]
  simp (disch := omega) only [e_eq0]
  rw [if_neg hf]
theorem x_number {M : j_M} {T : Nat → Nat} {n p k v pl nx lo hi : Nat} (h : CS M T n p) (hx : LEX T n p k v pl nx) (hlo : lo < 20000) (hhi : hi < 20000) : ∃ z M', xX8_readNumber (nI lo) (nI hi) M = some (nI z, M') ∧ FK M M' ∧ (k = 2 → lo ≤ v → v ≤ hi → z = v ∧ CS M' T n nx) ∧ (k = 2 → ¬ (lo ≤ v ∧ v ≤ hi) → z = lo ∧ CF M' 2 pl) ∧ (k ≠ 2 → z = lo ∧ CF M' 1 pl) := by
  have hb := LEX_b hx h.2.2.2.1
  obtain ⟨M1, e1, t1⟩ := x_readToken h.1 h.2.1 h.2.2.2.1 hx
  unfold xX8_readNumber
  rw [h.2.2.1, e_oli2, if_pos (by decide), e1, e_obv2, t1.2.1, e_oli2]
  simp (disch := omega) only [e_eq]
  by_cases c : k = 2
  · rw [if_pos c, t1.2.2.2.1 (Or.inr c), e_oli2, e_oli2, e_oli2]
    simp (disch := omega) only [e_lt, e_le]
    obtain ⟨M2, e2, c2, k2, _⟩ := x_refuse (f := 2) t1.2.2.1
    have e44 : xX8_readNumber_44 (nI lo) M1 = some (nI lo, M2) := by
      unfold xX8_readNumber_44
      rw [e2, e_obv2]
    by_cases d1 : v < lo
    · rw [if_pos d1, e44]
      exact ⟨lo, M2, rfl, FK_t (FK_tok t1) k2, fun _ q => by omega, fun _ _ => ⟨rfl, c2⟩, fun q => absurd c q⟩
    · rw [if_neg d1]
      by_cases d2 : v ≤ hi
      · rw [if_pos d2]
        exact ⟨v, M1, rfl, FK_tok t1, fun _ _ _ => ⟨rfl, CS_tok h t1 (by omega)⟩, fun _ q => by omega, fun q => absurd c q⟩
      · rw [if_neg d2, e44]
        exact ⟨lo, M2, rfl, FK_t (FK_tok t1) k2, fun _ _ q => by omega, fun _ _ => ⟨rfl, c2⟩, fun q => absurd c q⟩
  · obtain ⟨M2, e2, c2, k2, _⟩ := x_refuse (f := 1) t1.2.2.1
    rw [if_neg c, e2, e_obv2]
    exact ⟨lo, M2, rfl, FK_t (FK_tok t1) k2, fun q => absurd q c, fun q => absurd q c, fun _ => ⟨rfl, c2⟩⟩
theorem x_numberF {M : j_M} {f pl : Nat} {a b : Int32} (h : CF M f pl) (hf : f ≠ 0) (hf2 : f < 10) : xX8_readNumber a b M = some (a, M) := by
  unfold xX8_readNumber
  rw [h.1, e_oli2]
  simp (disch := omega) only [e_eq0]
  rw [if_neg hf]
/-! ===== reading on: the reference, one token ahead ===== -/
def RT (M : j_M) (T : Nat → Nat) (n f k v pl nx : Nat) : Prop := TR M T n ∧ M 200 23 = nI f ∧ f < 2 ∧ nx ≤ n ∧ M 200 12 = nI nx ∧ M 200 13 = nI (tkm f k v) ∧ M 200 14 = nI pl ∧ (k = 2 → M 200 15 = nI v)
/-- the reference's token and fault apart, nothing changed -/
def GK (M M' : j_M) : Prop := (∀ x, x ≠ 200 → M' x = M x) ∧ (∀ j, j < 12 ∨ (15 < j ∧ j ≠ 20 ∧ j ≠ 21) → M' 200 j = M 200 j)
theorem GK_r {M : j_M} : GK M M := ⟨fun _ _ => rfl, fun _ _ => rfl⟩
theorem GK_t {M M' M'' : j_M} (h : GK M M') (h2 : GK M' M'') : GK M M'' := ⟨fun x hx => by rw [h2.1 x hx, h.1 x hx], fun j a => by rw [h2.2 j a, h.2 j a]⟩
def RF (M : j_M) (f pl : Nat) : Prop := M 200 20 = nI f ∧ M 200 21 = nI pl
theorem tkm_le {f k v : Nat} (h : k = 1 → v < 13) : tkm f k v < 1000 := by
  unfold tkm
  (repeat' split) <;> omega
theorem r_bad {M : j_M} {f pl : Nat} (h : M 200 14 = nI pl) : ∃ M', xX12_bad (nI f) M = some (nI 0, M') ∧ RF M' f pl ∧ GK M M' := by
  unfold xX12_bad
  rw [e_oml2, mw_ne (by omega), h, e_oli2, e_oml2]
  refine ⟨_, rfl, ⟨?_, mw_at (by omega)⟩, fun x hx => ?_, fun j a => ?_⟩
  · rw [mw_ne (by omega), mw_at (by omega)]
  · rw [mw_oth hx, mw_oth hx]
  · rw [mw_ne (by omega), mw_ne (by omega)]
theorem r_go {M : j_M} {T : Nat → Nat} {n f k v pl nx k' v' pl' nx' : Nat} (h : RT M T n f k v pl nx) (hx : LEX T n nx k' v' pl' nx') : ∃ M', xX12_goesOn M = some M' ∧ RT M' T n f k' v' pl' nx' ∧ GK M M' := by
  obtain ⟨h1, h2, h3, h4, h5, h6, h7, h8⟩ := h
  have hb := LEX_b hx h4
  obtain ⟨M1, e1, t1⟩ := r_goesOn h1 h5 h2 h3 h4 hx
  obtain ⟨q1, q2, q3, q4, q5, q6⟩ := t1
  refine ⟨M1, e1, ⟨⟨h1.1, ?_, fun i hi => ?_⟩, ?_, h3, by omega, q1, q2, q3, q4⟩, q5, fun j hj => q6 j (by omega)⟩
  · rw [q6 11 (by omega)]; exact h1.2.1
  · rw [q5 205 (by omega)]; exact h1.2.2 i hi
  · rw [q6 23 (by omega)]; exact h2
theorem r_need {M : j_M} {T : Nat → Nat} {n f k v pl nx k' v' pl' nx' t : Nat} (h : RT M T n f k v pl nx) (hv : k = 1 → v < 13) (hx : LEX T n nx k' v' pl' nx') (ht : t < 1000) : (tkm f k v = t → ∃ M', xX12_need (nI t) M = some (nI 1, M') ∧ RT M' T n f k' v' pl' nx' ∧ GK M M') ∧ (tkm f k v ≠ t → ∃ M', xX12_need (nI t) M = some (nI 0, M') ∧ RF M' 1 pl ∧ GK M M') := by
  have hl := tkm_le (f := f) hv
  unfold xX12_need
  rw [h.2.2.2.2.2.1, e_oli2]
  simp (disch := omega) only [e_eq]
  constructor
  · intro c
    obtain ⟨M1, e1, r1, g1⟩ := r_go h hx
    rw [if_pos c, e1, e_obv2]
    exact ⟨M1, rfl, r1, g1⟩
  · intro c
    obtain ⟨M1, e1, r1, g1⟩ := r_bad (f := 1) h.2.2.2.2.2.2.1
    rw [if_neg c, e1, e_obi2, e_gz0]
    exact ⟨M1, rfl, r1, g1⟩
theorem tkm_2 {f k v : Nat} (hk : k = 1 → 1 ≤ v) : (tkm f k v = 2) = (k = 2) := by
  unfold tkm
  apply propext
  (repeat' split) <;> omega
theorem tkm_s {f k v : Nat} (hk : k = 1 → v < 13) : (tkm f k v = 159) = (k = 3) ∧ (tkm f k v = 223) = (k = 4) ∧ (tkm f k v = 225) = (k = 5) ∧ (tkm f k v = 0) = (k = 0) := by
  unfold tkm
  refine ⟨?_, ?_, ?_, ?_⟩ <;> apply propext <;> (repeat' split) <;> omega
