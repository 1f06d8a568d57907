/-! ===== one memory: the class's caches, log and script, and the reference's row, of one S ===== -/
def CVS (M : j_M) (t : Nat) (S : a_S) : Prop := ∀ k j, k < 20 → cl k ≤ j → j < ch k → M (t + k) j = cv S k j
def REL (M : j_M) (S : a_S) : Prop := M 201 = fl (enc S) ∧ CVS M 2 S ∧ SCP M 1 S
theorem xs_self {M : j_M} {t : Nat} {S : a_S} (h : CVS M t S) : XS M t S = M := by
  funext x j
  unfold XS
  by_cases hx : t ≤ x ∧ x < t + 20 ∧ cl (x - t) ≤ j ∧ j < ch (x - t)
  · rw [if_pos hx, ← h (x - t) j (by omega) hx.2.2.1 hx.2.2.2, show t + (x - t) = x by omega]
  · rw [if_neg hx]
theorem rs_self {M : j_M} {S : a_S} (h : M 201 = fl (enc S)) : RS M S = M := by
  funext x
  unfold RS RM
  by_cases hx : x = 201
  · rw [if_pos hx, hx, h]
  · rw [if_neg hx]
theorem rs_201 {N : j_M} {S : a_S} : RS N S 201 = fl (enc S) := by
  unfold RS RM
  rw [if_pos rfl]
theorem CVS_xs {N : j_M} {t : Nat} {S : a_S} : CVS (XS N t S) t S := fun _ _ hk h1 h2 => xs_r hk h1 h2
theorem CVS_e {M M' : j_M} {t : Nat} {S : a_S} (h : CVS M t S) (he : ∀ x, t ≤ x → x < t + 20 → M' x = M x) : CVS M' t S := by
  intro k j hk h1 h2
  rw [he (t + k) (by omega) (by omega)]
  exact h k j hk h1 h2
theorem SCP_e {M M' : j_M} {tm : Nat} {S : a_S} (h : SCP M tm S) (he : ∀ x, tm + 21 ≤ x → x < tm + 27 → M' x = M x) : SCP M' tm S := by
  unfold SCP at h ⊢
  rw [he (tm + 21) (by omega) (by omega), he (tm + 22) (by omega) (by omega), he (tm + 23) (by omega) (by omega), he (tm + 24) (by omega) (by omega), he (tm + 25) (by omega) (by omega), he (tm + 26) (by omega) (by omega)]
  exact h
/-- what a call leaves alone -/
def FRM (M M' : j_M) : Prop := ∀ x, (x < 2 ∨ (28 ≤ x ∧ x ≠ 201 ∧ x ≠ 204)) → M' x = M x
/-- what a call does to both sides -/
def STEP (F G : j_M → Option (Int32 × j_M)) (M : j_M) (b : Nat) : Prop := ∃ v M1 M2 S', F M = some (v, M1) ∧ G M1 = some (v, M2) ∧ REL M2 S' ∧ OKS S' b ∧ FRM M M1 ∧ FRM M M2
theorem op_step {F G : j_M → Option (Int32 × j_M)} {M : j_M} {S : a_S} {b : Nat} (h : OPN F G S b) (hr : REL M S) : STEP F G M b := by
  obtain ⟨v, S', hk, hF, hG⟩ := h
  obtain ⟨r1, r2, r3⟩ := hr
  obtain ⟨N', f1, f2, f3⟩ := hF M r3
  rw [xs_self r2] at f1
  have e1 : ∀ x, (x < 2 ∨ 28 ≤ x) → XS N' 2 S' x = M x := by
    intro x hx
    rw [xs_o (by omega), f3 x (by omega)]
  have e2 : RS (XS N' 2 S') S = XS N' 2 S' := rs_self (by rw [e1 201 (by omega), r1])
  obtain ⟨y, hy⟩ := hG (XS N' 2 S')
  rw [e2] at hy
  have e3 : ∀ x, x ≠ 201 → x ≠ 204 → RS (w4 (XS N' 2 S') y) S' x = XS N' 2 S' x := by
    intro x hx1 hx2
    rw [rs_o hx1]
    unfold w4
    rw [if_neg hx2]
  refine ⟨v, _, _, S', f1, hy, ⟨rs_201, CVS_e CVS_xs (fun x _ _ => e3 x (by omega) (by omega)), SCP_e f2 (fun x _ _ => ?_)⟩, hk, fun x hx => e1 x (by omega), fun x hx => ?_⟩
  · rw [e3 x (by omega) (by omega), xs_o (by omega)]
  · rw [e3 x (by omega) (by omega), e1 x (by omega)]
/-! ===== becoming another's copy ===== -/
theorem mcp_o {M : j_M} {a0 sp a dp n x : Nat} (h : x ≠ a) : mcp M a0 sp a dp n x = M x := by
  funext j
  unfold mcp
  rw [if_neg (by omega)]
theorem mcp_r {M : j_M} {a0 a n j : Nat} (h : a ≠ 0) (hj : j < n) : mcp M a0 0 a 0 n a j = M a0 j := by
  unfold mcp
  rw [if_pos ⟨rfl, h⟩, if_pos (by omega), Nat.zero_add, Nat.sub_zero]
theorem b_1 {t u : Nat} {M : j_M} (ht : t ≠ 0) (hd : u + 20 ≤ t ∨ t + 20 ≤ u) : ∃ M', xX1_become t u M = some M' ∧ (∀ k j, k < 8 → cl k ≤ j → j < ch k → M' (t + k) j = M (u + k) j) ∧ (∀ x, x < t ∨ t + 8 ≤ x → M' x = M x) := by
  unfold xX1_become
  simp (disch := omega) only [e_gd, e_ix, e_oli2, e_oml2, e_obi2, e_obv2, e_add, e_mul, e_sub, e_eq, e_lt, e_le, e_eq0, e_0eq, e_lt0, e_0lt, e_le0, e_0le, e_m1, e_m1', e_m1lt, Nat.add_assoc, Nat.not_lt_zero, Nat.le_zero_eq, e_gc]
  refine ⟨_, rfl, fun k j hk h1 h2 => ?_, fun x hx => ?_⟩
  · have hc : k = 0 ∨ k = 1 ∨ k = 2 ∨ k = 3 ∨ k = 4 ∨ k = 5 ∨ k = 6 ∨ k = 7 := by omega
    rcases hc with rfl | rfl | rfl | rfl | rfl | rfl | rfl | rfl
    · have h8 : 8 ≤ j := h1
      have h9 : j < 15 := h2
      have hj : j = 8 ∨ j = 9 ∨ j = 10 ∨ j = 11 ∨ j = 12 ∨ j = 13 ∨ j = 14 := by omega
      rcases hj with rfl | rfl | rfl | rfl | rfl | rfl | rfl <;> simp (disch := omega) only [Nat.add_zero, mw_at, mw_ne, mw_oth, mcp_o]
    · have h9 : j < 112 := h2
      simp (disch := omega) only [mw_oth, mcp_o, mcp_r]
    · have h9 : j < 240 := h2
      simp (disch := omega) only [mw_oth, mcp_o, mcp_r]
    · have h9 : j < 48 := h2
      simp (disch := omega) only [mw_oth, mcp_o, mcp_r]
    · have h9 : j < 48 := h2
      simp (disch := omega) only [mw_oth, mcp_o, mcp_r]
    · have h9 : j < 6 := h2
      simp (disch := omega) only [mw_oth, mcp_o, mcp_r]
    · have h9 : j < 6 := h2
      simp (disch := omega) only [mw_oth, mcp_o, mcp_r]
    · have h9 : j < 6 := h2
      simp (disch := omega) only [mw_oth, mcp_o, mcp_r]
  · simp (disch := omega) only [mw_oth, mcp_o]
theorem b_5 {t u : Nat} {M : j_M} (ht : t ≠ 0) (hd : u + 20 ≤ t ∨ t + 20 ≤ u) : ∃ M', xX5_become (t + 8) (u + 8) M = some M' ∧ (∀ k j, 8 ≤ k → k < 20 → cl k ≤ j → j < ch k → M' (t + k) j = M (u + k) j) ∧ (∀ x, x < t + 8 ∨ t + 20 ≤ x → M' x = M x) := by
  unfold xX5_become
  simp (disch := omega) only [e_gd, e_ix, e_oli2, e_oml2, e_obi2, e_obv2, e_add, e_mul, e_sub, e_eq, e_lt, e_le, e_eq0, e_0eq, e_lt0, e_0lt, e_le0, e_0le, e_m1, e_m1', e_m1lt, Nat.add_assoc, Nat.not_lt_zero, Nat.le_zero_eq, e_gc]
  refine ⟨_, rfl, fun k j hk hk2 h1 h2 => ?_, fun x hx => ?_⟩
  · have hc : k = 8 ∨ k = 9 ∨ k = 10 ∨ k = 11 ∨ k = 12 ∨ k = 13 ∨ k = 14 ∨ k = 15 ∨ k = 16 ∨ k = 17 ∨ k = 18 ∨ k = 19 := by omega
    rcases hc with rfl | rfl | rfl | rfl | rfl | rfl | rfl | rfl | rfl | rfl | rfl | rfl
    · have h8 : 11 ≤ j := h1
      have h9 : j < 15 := h2
      have hj : j = 11 ∨ j = 12 ∨ j = 13 ∨ j = 14 := by omega
      rcases hj with rfl | rfl | rfl | rfl <;> simp (disch := omega) only [mw_at, mw_ne, mw_oth, mcp_o]
    · have h9 : j < 100 := h2
      simp (disch := omega) only [mw_oth, mcp_o]
      exact (mcp_r (by omega) (by omega)).trans (by simp (disch := omega) only [mw_oth, mcp_o])
    · have h9 : j < 49 := h2
      simp (disch := omega) only [mw_oth, mcp_o]
      exact (mcp_r (by omega) (by omega)).trans (by simp (disch := omega) only [mw_oth, mcp_o])
    · have h9 : j < 49 := h2
      simp (disch := omega) only [mw_oth, mcp_o]
      exact (mcp_r (by omega) (by omega)).trans (by simp (disch := omega) only [mw_oth, mcp_o])
    · have h9 : j < 49 := h2
      simp (disch := omega) only [mw_oth, mcp_o]
      exact (mcp_r (by omega) (by omega)).trans (by simp (disch := omega) only [mw_oth, mcp_o])
    · have h9 : j < 360 := h2
      simp (disch := omega) only [mw_oth, mcp_o]
      exact (mcp_r (by omega) (by omega)).trans (by simp (disch := omega) only [mw_oth, mcp_o])
    · have h9 : j < 6 := h2
      simp (disch := omega) only [mw_oth, mcp_o]
      exact (mcp_r (by omega) (by omega)).trans (by simp (disch := omega) only [mw_oth, mcp_o])
    · have h9 : j < 6 := h2
      simp (disch := omega) only [mw_oth, mcp_o]
      exact (mcp_r (by omega) (by omega)).trans (by simp (disch := omega) only [mw_oth, mcp_o])
    · have h9 : j < 6 := h2
      simp (disch := omega) only [mw_oth, mcp_o]
      exact (mcp_r (by omega) (by omega)).trans (by simp (disch := omega) only [mw_oth, mcp_o])
    · have h9 : j < 6 := h2
      simp (disch := omega) only [mw_oth, mcp_o]
      exact (mcp_r (by omega) (by omega)).trans (by simp (disch := omega) only [mw_oth, mcp_o])
    · have h9 : j < 6 := h2
      simp (disch := omega) only [mw_oth, mcp_o]
      exact (mcp_r (by omega) (by omega)).trans (by simp (disch := omega) only [mw_oth, mcp_o])
    · have h9 : j < 6 := h2
      simp (disch := omega) only [mw_oth, mcp_o]
      exact (mcp_r (by omega) (by omega)).trans (by simp (disch := omega) only [mw_oth, mcp_o])
  · simp (disch := omega) only [mw_oth, mcp_o]
def sl (k : Nat) : Nat := if k = 0 then 8 else if k = 1 then 1200 else if k = 5 then 24 else 6
theorem b_9 {t u : Nat} {M : j_M} (ht : t ≠ 0) (hd : u + 20 ≤ t ∨ t + 20 ≤ u) : ∃ M', xX9_become t u M = some M' ∧ (∀ k j, k < 6 → (k = 0 → 5 ≤ j) → j < sl k → M' (t + k) j = M (u + k) j) ∧ (∀ x, x < t ∨ t + 6 ≤ x → M' x = M x) := by
  unfold xX9_become
  simp (disch := omega) only [e_gd, e_ix, e_oli2, e_oml2, e_obi2, e_obv2, e_add, e_mul, e_sub, e_eq, e_lt, e_le, e_eq0, e_0eq, e_lt0, e_0lt, e_le0, e_0le, e_m1, e_m1', e_m1lt, Nat.add_assoc, Nat.not_lt_zero, Nat.le_zero_eq, e_gc]
  refine ⟨_, rfl, fun k j hk h1 h2 => ?_, fun x hx => ?_⟩
  · have hc : k = 0 ∨ k = 1 ∨ k = 2 ∨ k = 3 ∨ k = 4 ∨ k = 5 := by omega
    rcases hc with rfl | rfl | rfl | rfl | rfl | rfl
    · have h8 : 5 ≤ j := h1 rfl
      have h9 : j < 8 := h2
      have hj : j = 5 ∨ j = 6 ∨ j = 7 := by omega
      rcases hj with rfl | rfl | rfl <;> simp (disch := omega) only [Nat.add_zero, mw_at, mw_ne, mw_oth, mcp_o]
    · have h9 : j < 1200 := h2
      simp (disch := omega) only [mw_oth, mcp_o, mcp_r]
    · have h9 : j < 6 := h2
      simp (disch := omega) only [mw_oth, mcp_o, mcp_r]
    · have h9 : j < 6 := h2
      simp (disch := omega) only [mw_oth, mcp_o, mcp_r]
    · have h9 : j < 6 := h2
      simp (disch := omega) only [mw_oth, mcp_o, mcp_r]
    · have h9 : j < 24 := h2
      simp (disch := omega) only [mw_oth, mcp_o, mcp_r]
  · simp (disch := omega) only [mw_oth, mcp_o]
