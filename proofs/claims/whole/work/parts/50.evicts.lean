/-! ===== what giving leaves; evicting; distinct lines in use ===== -/
theorem ag0_1 {S : a_S} {nd t l mn ow da i : Nat} (h : i ≠ 7) : a_gives0 S nd t l mn ow da 1 i = S 1 i := by
  unfold a_gives0
  rw [sw_r (by omega), as_1 h]
theorem ag1_1 {S : a_S} {nd t l mn ow da i : Nat} (h : i ≠ 7) : a_gives1 S nd t l mn ow da 1 i = S 1 i := by
  unfold a_gives1
  split
  · exact ag0_1 h
  · rw [sw_r (by omega), ag0_1 h]
theorem ag_1 {S : a_S} {nd t l mn ow da i : Nat} (h : i ≠ 7) : a_gives S nd t l mn ow da 1 i = S 1 i := by
  have e : a_gives2 S nd t l mn ow da 1 i = S 1 i := by
    unfold a_gives2
    rw [sw_r (by omega), sw_r (by omega), ag1_1 h]
  unfold a_gives
  split
  · split
    · exact e
    · rw [fo_o (by omega), e]
  · exact ag1_1 h
theorem ag1_7 {S : a_S} {nd t l mn ow da : Nat} : a_gives1 S nd t l mn ow da 1 7 = S 1 7 + 1 := by
  unfold a_gives1 a_gives0
  split
  · rw [sw_r (by omega), as_7]
  · rw [sw_r (by omega), sw_r (by omega), as_7]
theorem ag_7 {S : a_S} {nd t l mn ow da : Nat} : a_gives S nd t l mn ow da 1 7 = S 1 7 + 1 := by
  have e : a_gives2 S nd t l mn ow da 1 7 = S 1 7 + 1 := by
    unfold a_gives2
    rw [sw_r (by omega), sw_r (by omega), ag1_7]
  unfold a_gives
  split
  · split
    · exact e
    · rw [fo_o (by omega), e]
  · exact ag1_7
theorem ag_o {S : a_S} {nd t l mn ow da r i : Nat} (h : r ≠ 586 ∧ r ≠ 1 ∧ r ≠ 6814 ∧ r ≠ 14 ∧ r ≠ 70 ∧ r ≠ 126 ∧ r ≠ 182 ∧ r ≠ 238 ∧ r ≠ 244) : a_gives S nd t l mn ow da r i = S r i := by
  unfold a_gives
  split
  · split
    · rw [ag2_o (by omega)]
    · rw [fo_o (by omega), ag2_o (by omega)]
  · rw [ag1_o (by omega)]
/-- of the regions by lines, only the one place changes -/
theorem ag1_p {S : a_S} {nd t l mn ow da r i : Nat} (h : r = 14 ∨ r = 70 ∨ r = 126 ∨ r = 182) (hi : i ≠ 8 * nd + l) : a_gives1 S nd t l mn ow da r i = S r i := by
  unfold a_gives1 a_gives0
  split
  · by_cases h14 : r = 14
    · subst h14
      rw [sw_i hi, as_o (by omega)]
    · rw [sw_r h14, as_o (by omega)]
  · by_cases h14 : r = 14
    · subst h14
      rw [sw_r (by omega), sw_i hi, as_o (by omega)]
    · by_cases h70 : r = 70
      · subst h70
        rw [sw_i hi, sw_r (by omega), as_o (by omega)]
      · rw [sw_r h70, sw_r h14, as_o (by omega)]
theorem ag_p {S : a_S} {nd t l mn ow da r i : Nat} (h : r = 14 ∨ r = 70 ∨ r = 126 ∨ r = 182) (hi : i ≠ 8 * nd + l) : a_gives S nd t l mn ow da r i = S r i := by
  have e : a_gives2 S nd t l mn ow da r i = S r i := by
    unfold a_gives2
    by_cases h1 : r = 126
    · subst h1
      rw [sw_r (by omega), sw_i hi, ag1_p (by omega) hi]
    · by_cases h2 : r = 182
      · subst h2
        rw [sw_i hi, sw_r (by omega), ag1_p (by omega) hi]
      · rw [sw_r h2, sw_r h1, ag1_p h hi]
  unfold a_gives
  split
  · split
    · exact e
    · rw [fo_o (by omega), e]
  · exact ag1_p h hi
def a_evicts (S : a_S) (c l : Nat) : a_S := sw (a_givesAll (a_notes S 4 c l) c 6 l) 1 12 (S 1 12 + 1)
theorem r_evicts {N : j_M} {S : a_S} {c l : Nat} (h : RG S) (hq : S 1 7 < 240) (hc : c < 6) (hl : l < 8) (ht : S 6961 0 < 2147483000) : xX12_evicts (nI c) (nI l) (RS N S) = some (RS N (a_evicts S c l)) := by
  have en := q_notes (N := N) (S := S) (w := 4) (c := c) (l := l) ht
  have eg := q_givesAll (N := N) (S := a_notes S 4 c l) (nd := c) (t := 6) (l := l) (RG_notes h) (by rw [an_o (by omega)]; exact hq) (by omega) (by omega) hl
  have f : a_givesAll (a_notes S 4 c l) c 6 l 1 12 = S 1 12 := by
    unfold a_givesAll
    rw [ag_1 (by omega), an_o (by omega)]
  unfold xX12_evicts a_evicts
  simp (disch := omega) only [e_gd, e_ix, e_oli, e_oml, e_obi, e_obv, e_add, e_mul, e_sub, e_eq, e_lt, e_le, e_eq0, e_0eq, e_lt0, e_0lt, e_le0, e_0le, e_m1, e_m1', e_m1lt, Nat.add_assoc, Nat.not_lt_zero, Nat.le_zero_eq, en, eg, sr_1, sr_14, sr_70, sr_126, sr_182, sr_238, sr_244, sr_292, sr_298, sr_304, sr_310, sr_316, sr_358, sr_400, sr_442, sr_484, sr_526, sr_532, sr_538, so_586, sr_586, sr_2746, sr_2752, sr_3112, sr_3118, sr_3124, sr_3130, sr_6730, sr_6736, sr_6766, sr_6814, sr_6961, sr_6962, sr_7362, sr_7363, sr_7364, su_6961, su_7362, su_7363, f, st_1, st_14, st_70, st_126, st_182, st_238, st_244, sm_292, so_292, st_292, st_298, st_304, st_310, st_316, st_358, st_400, st_442, st_484, st_526, st_532, sm_538, so_538, st_538, sm_586, sn_586, sp_586, st_586, st_2746, st_2752, st_3112, st_3118, st_3124, st_3130, st_6730, st_6736, st_6766, st_6814, st_6961, st_6962, st_7362, st_7363, st_7364, sv_6961, sv_7362, sv_7363]
theorem RG_evicts {S : a_S} {c l : Nat} (h : RG S) (hq : S 1 7 < 240) (hc : c < 6) (hl : l < 8) : RG (a_evicts S c l) := by
  unfold a_evicts
  exact RG_sw (RG_givesAll (RG_notes h) (by rw [an_o (by omega)]; exact hq) (by omega) (by omega) hl) (by unfold rg; omega)
theorem ev_7 {S : a_S} {c l : Nat} : a_evicts S c l 1 7 = S 1 7 + 1 := by
  unfold a_evicts a_givesAll
  rw [sw_i (by omega), ag_7, an_o (by omega)]
theorem ev_1 {S : a_S} {c l i : Nat} (h : i ≠ 7 ∧ i ≠ 12) : a_evicts S c l 1 i = S 1 i := by
  unfold a_evicts a_givesAll
  rw [sw_i (by omega), ag_1 (by omega), an_o (by omega)]
theorem ev_o {S : a_S} {c l r i : Nat} (h : r ≠ 586 ∧ r ≠ 1 ∧ r ≠ 6814 ∧ r ≠ 14 ∧ r ≠ 70 ∧ r ≠ 126 ∧ r ≠ 182 ∧ r ≠ 238 ∧ r ≠ 244 ∧ r ≠ 6961 ∧ r ≠ 6962) : a_evicts S c l r i = S r i := by
  unfold a_evicts a_givesAll
  rw [sw_r (by omega), ag_o (by omega), an_o (by omega)]
theorem ev_p {S : a_S} {c l r i : Nat} (h : r = 14 ∨ r = 70 ∨ r = 126 ∨ r = 182) (hi : i ≠ 8 * c + l) : a_evicts S c l r i = S r i := by
  unfold a_evicts a_givesAll
  rw [sw_r (by omega), ag_p h hi, an_o (by omega)]
theorem ag_t {S : a_S} {nd t l mn ow da : Nat} : a_gives S nd t l mn ow da 6961 0 = S 6961 0 := ag_o (by omega)
theorem an_t {S : a_S} {w c l : Nat} : a_notes S w c l 6961 0 = S 6961 0 + 1 := by
  unfold a_notes
  rw [sw_at]
theorem ev_t {S : a_S} {c l : Nat} : a_evicts S c l 6961 0 = S 6961 0 + 1 := by
  unfold a_evicts a_givesAll
  rw [sw_r (by omega), ag_t, an_t]
/-- no line stands twice in an order of use -/
def UD (S : a_S) : Prop := ∀ c, c < 6 → ∀ k k', k < k' → k' < S 238 c → S 244 (8 * c + k) ≠ S 244 (8 * c + k')
theorem php : ∀ (m n : Nat) (f : Nat → Nat), (∀ k, k < n → f k < m) → (∀ k k', k < k' → k' < n → f k ≠ f k') → n ≤ m
  | 0, n, f, h, _ => by
    by_cases hn : n = 0
    · omega
    · have := h 0 (by omega)
      omega
  | m + 1, n, f, h, hi => by
    by_cases hx : ∃ k, k < n ∧ f k = m
    · obtain ⟨k, hk, he⟩ := hx
      have := php m (n - 1) (fun j => if j < k then f j else f (j + 1)) (fun j hj => by
        split
        · rename_i h1
          have h2 := h j (by omega)
          have h3 := hi j k h1 hk
          omega
        · rename_i h1
          have h2 := h (j + 1) (by omega)
          have h3 := hi k (j + 1) (by omega) (by omega)
          omega) (fun j j' h1 h2 => by
        split <;> split
        · exact hi j j' h1 (by omega)
        · exact hi j (j' + 1) (by omega) (by omega)
        · omega
        · exact hi (j + 1) (j' + 1) (by omega) (by omega))
      omega
    · have := php m n f (fun k hk => by
        have h1 := h k hk
        have h2 : f k ≠ m := fun e => hx ⟨k, hk, e⟩
        omega) hi
      omega
theorem fr_0 {P : Nat → Prop} [DecidablePred P] : ∀ (m k : Nat), fr P m k = 0 → ∀ j, k ≤ j → j < k + m → ¬ P j
  | 0, k, _, j, h1, h2 => by omega
  | m + 1, k, h, j, h1, h2 => by
    rw [fr_s] at h
    split at h
    · omega
    · rename_i hk
      by_cases hj : j = k
      · rw [hj]; exact hk
      · exact fr_0 m (k + 1) h j (by omega) (by omega)
theorem fr_p {P : Nat → Prop} [DecidablePred P] : ∀ (m k : Nat), fr P m k ≠ 0 → P (fr P m k - 1) ∧ k + 1 ≤ fr P m k ∧ fr P m k ≤ k + m
  | 0, k, h => absurd rfl h
  | m + 1, k, h => by
    rw [fr_s] at h ⊢
    split
    · rename_i hk
      exact ⟨hk, by omega, by omega⟩
    · rename_i hk
      rw [if_neg hk] at h
      have := fr_p m (k + 1) h
      exact ⟨this.1, by omega, by omega⟩
theorem UD_f7 {S : a_S} {c l : Nat} (h : RG S) (hu : UD S) (hc : c < 6) (hl : l < 8) : a_forget S c l 238 c ≤ 7 := by
  have h8 := g_8 h 238 c (Or.inl rfl)
  rw [fo_238]
  split
  · rename_i h0
    have e := fr_0 (P := fun k => S 244 (8 * c + k) = l) _ _ h0
    refine php 7 (S 238 c) (fun k => if S 244 (8 * c + k) < l then S 244 (8 * c + k) else S 244 (8 * c + k) - 1) (fun k hk => ?_) (fun k k' h1 h2 => ?_)
    · have e1 := e k (by omega) (by omega)
      have e2 := g_l h 244 (8 * c + k) (Or.inl rfl)
      split <;> omega
    · have e1 := e k (by omega) (by omega)
      have e2 := e k' (by omega) (by omega)
      have e3 := hu c hc k k' h1 h2
      split <;> split <;> omega
  · omega
theorem UD_c {S S' : a_S} (h : UD S) (h1 : ∀ i, S' 238 i = S 238 i) (h2 : ∀ i, S' 244 i = S 244 i) : UD S' := by
  intro c hc k k' h3 h4
  rw [h1] at h4
  rw [h2, h2]
  exact h c hc k k' h3 h4
theorem UD_forget {S : a_S} {c l : Nat} (hr : RG S) (hc : c < 6) (h : UD S) : UD (a_forget S c l) := by
  unfold a_forget
  split
  · exact h
  · intro d hd k k' h1 h2
    have h8 := g_8 hr 238 c (Or.inl rfl)
    have h8' := g_8 hr 238 d (Or.inl rfl)
    unfold a_shift at h2 ⊢
    rw [if_neg (by omega)] at h2
    simp (disch := omega) only [if_pos, sw_r]
    by_cases hcd : d = c
    · subst hcd
      rw [sw_at] at h2
      have e1 := h d hd k k' h1 (by omega)
      have e2 := h d hd (k + 1) (k' + 1) (by omega) (by omega)
      have e3 := h d hd k (k' + 1) (by omega) (by omega)
      rw [show 8 * d + (k + 1) = 8 * d + k + 1 by omega] at e2
      rw [show 8 * d + (k' + 1) = 8 * d + k' + 1 by omega] at e2 e3
      (repeat' split) <;> first | assumption | (exfalso; omega)
    · rw [sw_i hcd] at h2
      have e1 := h d hd k k' h1 h2
      simp (disch := omega) only [if_neg]
      exact e1
