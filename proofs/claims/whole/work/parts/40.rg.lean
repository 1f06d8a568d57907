/-! ===== ranges ===== -/
def rg (r i v : Nat) : Prop :=
  (r = 1 → (i = 0 → v ≤ 6) ∧ (i = 1 → v ≤ 12) ∧ (i = 2 → v ≤ 8) ∧ (i = 3 → v ≤ 3) ∧ (i = 4 → v ≤ 20) ∧ (i = 5 → v ≤ 10100) ∧ (i = 7 → v ≤ 240)) ∧
  (r = 14 → v ≤ 12) ∧ (r = 70 ∨ r = 126 ∨ r = 310 ∨ r = 358 ∨ r = 484 → v < 2) ∧ (r = 182 ∨ r = 304 → v < 10000) ∧ (r = 238 ∨ r = 292 → v ≤ 8) ∧ (r = 244 ∨ r = 400 → v < 8) ∧
  (r = 298 ∨ r = 442 ∨ r = 526 → v < 4) ∧ (r = 316 ∨ r = 532 ∨ r = 6730 → v ≤ 10100) ∧ (r = 538 → v ≤ 6) ∧ (r = 2746 → v ≤ 60) ∧ (r = 6766 → v < 64) ∧ (r = 6736 → i % 5 = 3 → v ≤ 10100) ∧
  (r = 586 → (i % 9 ≤ 1 → v < 7) ∧ (i % 9 = 2 → v < 6) ∧ (i % 9 = 3 → v < 8) ∧ (i % 9 = 4 → v ≤ 12) ∧ (i % 9 = 5 → v < 2) ∧ (i % 9 = 6 → v ≤ 10000) ∧ (i % 9 = 7 → v ≤ 10100) ∧ (i % 9 = 8 → v < 4))
def RG (S : a_S) : Prop := ∀ r i, rg r i (S r i)
theorem RG_sw {S : a_S} {r i v : Nat} (h : RG S) (hv : rg r i v) : RG (sw S r i v) := by
  intro x j
  unfold sw
  split
  · rename_i h1
    rw [h1.1, h1.2]
    exact hv
  · exact h x j
theorem g_14 {S : a_S} (h : RG S) (i : Nat) : S 14 i ≤ 12 := (h 14 i).2.1 rfl
theorem g_b {S : a_S} (h : RG S) (r i : Nat) (hr : r = 70 ∨ r = 126 ∨ r = 310 ∨ r = 358 ∨ r = 484) : S r i < 2 := (h r i).2.2.1 hr
theorem g_d {S : a_S} (h : RG S) (r i : Nat) (hr : r = 182 ∨ r = 304) : S r i < 10000 := (h r i).2.2.2.1 hr
theorem g_8 {S : a_S} (h : RG S) (r i : Nat) (hr : r = 238 ∨ r = 292) : S r i ≤ 8 := (h r i).2.2.2.2.1 hr
theorem g_l {S : a_S} (h : RG S) (r i : Nat) (hr : r = 244 ∨ r = 400) : S r i < 8 := (h r i).2.2.2.2.2.1 hr
theorem g_4 {S : a_S} (h : RG S) (r i : Nat) (hr : r = 298 ∨ r = 442 ∨ r = 526) : S r i < 4 := (h r i).2.2.2.2.2.2.1 hr
theorem g_t {S : a_S} (h : RG S) (r i : Nat) (hr : r = 316 ∨ r = 532 ∨ r = 6730) : S r i ≤ 10100 := (h r i).2.2.2.2.2.2.2.1 hr
theorem g_n {S : a_S} (h : RG S) : S 1 0 ≤ 6 := (h 1 0).1 rfl |>.1 rfl
theorem g_T {S : a_S} (h : RG S) : S 1 1 ≤ 12 := (h 1 1).1 rfl |>.2.1 rfl
theorem RG_send {S : a_S} {f t k l mn ow wi nt wh : Nat} (h : RG S) (hq : S 1 7 < 240) (hf : f < 7) (ht : t < 7) (hk : k < 6) (hl : l < 8) (hm : mn ≤ 12) (ho : ow < 2) (hw : wi ≤ 10000) (hn : nt ≤ 10100) (hh : wh < 4) : RG (a_send S f t k l mn ow wi nt wh) := by
  intro x j
  by_cases h1 : x = 586
  · subst h1
    have hj := h 586 j
    unfold a_send fl9
    unfold rg at hj ⊢
    rw [if_pos rfl]
    refine ⟨by omega, by omega, by omega, by omega, by omega, by omega, by omega, by omega, by omega, by omega, by omega, by omega, fun _ => ?_⟩
    have hj2 := hj.2.2.2.2.2.2.2.2.2.2.2.2 rfl
    by_cases c : 9 * S 1 7 ≤ j ∧ j < 9 * S 1 7 + 9
    · rw [if_pos c]
      refine ⟨?_, ?_, ?_, ?_, ?_, ?_, ?_, ?_⟩ <;> intro h9 <;> (repeat' split) <;> omega
    · rw [if_neg c]
      exact hj2
  · by_cases h2 : x = 1
    · subst h2
      have hj := h 1 j
      unfold a_send
      rw [if_neg (by omega), if_pos rfl]
      split
      · rename_i h7
        unfold rg
        omega
      · exact hj
    · by_cases h3 : x = 6814
      · subst h3
        unfold rg
        omega
      · rw [as_o ⟨h1, h2, h3⟩]
        exact h x j
theorem RG_shift {S : a_S} {c k U : Nat} (h : RG S) : RG (a_shift S c k U) := by
  intro x j
  unfold a_shift
  split
  · rename_i h1
    subst h1
    have e := g_l h 244 (j + 1) (Or.inl rfl)
    have e2 := g_l h 244 j (Or.inl rfl)
    unfold rg
    (repeat' split) <;> omega
  · exact h x j
theorem RG_forget {S : a_S} {c l : Nat} (h : RG S) : RG (a_forget S c l) := by
  unfold a_forget
  split
  · exact h
  · have e := g_8 h 238 c (Or.inl rfl)
    exact RG_shift (RG_sw h (by unfold rg; omega))
