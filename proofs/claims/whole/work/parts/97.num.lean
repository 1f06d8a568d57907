/-! ===== a number into the reference's row ===== -/
/-- one place of the rows read so far (206) may have changed too -/
def HK (M M' : j_M) : Prop := (∀ x, x ≠ 200 → x ≠ 206 → M' x = M x) ∧ (∀ j, j < 12 ∨ (15 < j ∧ j ≠ 20 ∧ j ≠ 21) → M' 200 j = M 200 j)
theorem HK_r {M : j_M} : HK M M := ⟨fun _ _ _ => rfl, fun _ _ => rfl⟩
theorem HK_t {M M' M'' : j_M} (h : HK M M') (h2 : HK M' M'') : HK M M'' := ⟨fun x a b => by rw [h2.1 x a b, h.1 x a b], fun j a => by rw [h2.2 j a, h.2 j a]⟩
theorem HK_g {M M' : j_M} (h : GK M M') : HK M M' := ⟨fun x a _ => h.1 x a, h.2⟩
theorem HK_w {M : j_M} {i : Nat} {v : Int32} : HK M (mw M 206 i v) := ⟨fun x _ b => mw_oth b, fun j _ => by rw [mw_oth (by omega)]⟩
theorem RT_w {M : j_M} {T : Nat → Nat} {n f k v pl nx i : Nat} {y : Int32} (h : RT M T n f k v pl nx) : RT (mw M 206 i y) T n f k v pl nx := by
  obtain ⟨⟨a1, a2, a3⟩, h2, h3, h4, h5, h6, h7, h8⟩ := h
  refine ⟨⟨a1, ?_, fun j hj => ?_⟩, ?_, h3, h4, ?_, ?_, ?_, fun q => ?_⟩
  · rw [mw_oth (by omega)]; exact a2
  · rw [mw_oth (by omega)]; exact a3 j hj
  · rw [mw_oth (by omega)]; exact h2
  · rw [mw_oth (by omega)]; exact h5
  · rw [mw_oth (by omega)]; exact h6
  · rw [mw_oth (by omega)]; exact h7
  · rw [mw_oth (by omega)]; exact h8 q
theorem r_number {M : j_M} {T : Nat → Nat} {n f k v pl nx k' v' pl' nx' s sl lo hi : Nat} (h : RT M T n f k v pl nx) (hv : k = 1 → 1 ≤ v ∧ v < 13) (hv2 : k = 2 → v < 10000) (hx : LEX T n nx k' v' pl' nx') (hs : M 200 16 = nI s) (hs2 : s < 400) (hsl : sl < 4) (hlo : lo < 20000) (hhi : hi < 20000) : (k = 2 → lo ≤ v → v ≤ hi → ∃ M', xX12_number (nI sl) (nI lo) (nI hi) M = some (nI 1, M') ∧ RT M' T n f k' v' pl' nx' ∧ HK M M' ∧ M' 206 (4 * s + sl) = nI v ∧ (∀ j, j ≠ 4 * s + sl → M' 206 j = M 206 j)) ∧ (k = 2 → ¬ (lo ≤ v ∧ v ≤ hi) → ∃ M', xX12_number (nI sl) (nI lo) (nI hi) M = some (nI 0, M') ∧ RF M' 2 pl ∧ GK M M') ∧ (k ≠ 2 → ∃ M', xX12_number (nI sl) (nI lo) (nI hi) M = some (nI 0, M') ∧ RF M' 1 pl ∧ GK M M') := by
  have hl := tkm_le (f := f) (fun q => (hv q).2)
  have h2 := tkm_2 (f := f) (fun q => (hv q).1)
  have r14 := h.2.2.2.2.2.2.1
  have r15 := h.2.2.2.2.2.2.2
  unfold xX12_number
  rw [h.2.2.2.2.2.1, e_oli2]
  simp (disch := omega) only [e_eq, h2]
  refine ⟨fun c d1 d2 => ?_, fun c d => ?_, fun c => ?_⟩
  · have hv3 := hv2 c
    obtain ⟨M1, e1, r1, g1⟩ := r_go (RT_w (i := 4 * s + sl) (y := nI v) h) hx
    rw [if_pos c, r15 c, e_oli2, m_isIn M (by omega) (by omega) (by omega), e_obi2, if_pos (show lo ≤ v ∧ v ≤ hi from ⟨d1, d2⟩), if_neg (by decide), hs, r15 c]
    simp (disch := omega) only [e_gd, e_ix, e_oli2, e_oml2, e_obi2, e_obv2, e_add, e_mul, e_sub, e_eq, e_lt, e_le, e_eq0, e_0eq, e_lt0, e_0lt, e_le0, e_0le, e_m1, e_m1', e_m1lt, Nat.add_assoc, Nat.not_lt_zero, Nat.le_zero_eq]
    rw [e1, e_obv2]
    refine ⟨M1, rfl, r1, HK_t HK_w (HK_g g1), ?_, fun j hj => ?_⟩
    · rw [g1.1 206 (by omega), mw_at (by omega)]
    · rw [g1.1 206 (by omega), mw_ne hj]
  · have hv3 := hv2 c
    obtain ⟨M1, e1, r1, g1⟩ := r_bad (f := 2) r14
    rw [if_pos c, r15 c, e_oli2, m_isIn M (by omega) (by omega) (by omega), e_obi2, if_neg d, if_pos (by decide), e1, e_obi2, e_gz0]
    exact ⟨M1, rfl, r1, g1⟩
  · obtain ⟨M1, e1, r1, g1⟩ := r_bad (f := 1) r14
    rw [if_neg c, e1, e_obi2, e_gz0]
    exact ⟨M1, rfl, r1, g1⟩
