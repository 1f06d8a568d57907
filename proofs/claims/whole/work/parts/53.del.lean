/-! ===== a message is delivered ===== -/
theorem e_oml2 {ρ : Type} {M : j_M} {X : j_M → Option ρ} : oml M X = X M := by simp [oml]
theorem e_obv2 {ρ : Type} {M : j_M} {X : j_M → Option ρ} : obv (some M) X = X M := by simp [obv]
theorem e_osw {ρ : Type} {x c : Int32} {A D : Option ρ} {l : List (Int32 × Option ρ)} : osw x ((c, A) :: l) D = if x = c then A else osw x l D := by simp [osw]
theorem e_osw0 {ρ : Type} {x : Int32} {D : Option ρ} : osw x [] D = D := by simp [osw]
def a_rm (S : a_S) (i : Nat) : a_S := fun r j =>
  if r = 586 then (if 9 * i ≤ j ∧ j < 9 * (S 1 7 - 1) then S 586 (j + 9) else S 586 j)
  else if r = 1 then (if j = 7 then S 1 7 - 1 else if j = 13 then S 1 13 + 1 else S 1 j) else S r j
def a_del (S : a_S) (i : Nat) : a_S :=
  if S 586 (9 * i + 2) = 1 then a_answers (a_rm S i) (S 586 (9 * i + 1)) (S 586 (9 * i)) (S 586 (9 * i + 3)) 0
  else if S 586 (9 * i + 2) = 2 then a_answers (a_rm S i) (S 586 (9 * i + 1)) (S 586 (9 * i)) (S 586 (9 * i + 3)) 1
  else if S 586 (9 * i + 2) = 3 then a_comes (a_rm S i) (S 586 (9 * i + 1)) (S 586 (9 * i)) (S 586 (9 * i + 3)) (S 586 (9 * i + 4)) (S 586 (9 * i + 5)) (S 586 (9 * i + 6))
  else if S 586 (9 * i + 2) = 4 then a_asked (a_rm S i) (S 586 (9 * i + 1)) (S 586 (9 * i)) (S 586 (9 * i + 3)) (S 586 (9 * i + 7)) (S 586 (9 * i + 8))
  else a_reca (a_rm S i) (S 586 (9 * i + 1)) (S 586 (9 * i)) (S 586 (9 * i + 3)) (S 586 (9 * i + 7))
theorem rm_q {S : a_S} {i r j : Nat} (h : r ≠ 586 ∧ r ≠ 1) : a_rm S i r j = S r j := by
  unfold a_rm
  rw [if_neg h.1, if_neg h.2]
theorem rm_7 {S : a_S} {i : Nat} : a_rm S i 1 7 = S 1 7 - 1 := rfl
theorem rm_1 {S : a_S} {i j : Nat} (h : j ≠ 7 ∧ j ≠ 13) : a_rm S i 1 j = S 1 j := by
  unfold a_rm
  rw [if_neg (by omega), if_pos rfl, if_neg h.1, if_neg h.2]
theorem RG_rm {S : a_S} {i : Nat} (h : RG S) : RG (a_rm S i) := by
  intro x j
  by_cases h1 : x = 586
  · subst h1
    have hj := h 586 j
    have hj9 := h 586 (j + 9)
    unfold a_rm
    rw [if_pos rfl]
    split
    · unfold rg at hj9 ⊢
      have e : (j + 9) % 9 = j % 9 := by omega
      rw [e] at hj9
      refine ⟨by omega, by omega, by omega, by omega, by omega, by omega, by omega, by omega, by omega, by omega, by omega, by omega, fun _ => hj9.2.2.2.2.2.2.2.2.2.2.2.2 rfl⟩
    · exact hj
  · by_cases h2 : x = 1
    · subst h2
      have hj := h 1 j
      have h7 := h 1 7
      by_cases hj7 : j = 7
      · subst hj7
        rw [rm_7]
        unfold rg at h7 ⊢
        omega
      · by_cases hj13 : j = 13
        · subst hj13
          unfold rg
          omega
        · rw [rm_1 ⟨hj7, hj13⟩]
          exact hj
    · rw [rm_q ⟨h1, h2⟩]
      exact h x j
/-- the message in hand -/
def m9 (N : j_M) (S : a_S) (i k : Nat) : j_M := fun x j => if x = 204 ∧ k ≤ j ∧ j < 9 then enc S 586 (9 * i + j) else N x j
theorem m9_o {N : j_M} {S : a_S} {i k x : Nat} (h : x ≠ 204) : m9 N S i k x = N x := by
  funext j
  unfold m9
  rw [if_neg (fun e => h e.1)]
theorem r_of9 {N : j_M} {S : a_S} {i f : Nat} (hi : i < 240) (hf : f < 9) : xX12_of (nI i) (nI f) (RS N S) = some (enc S 586 (9 * i + f), RS N S) := m_of hi hf
theorem sr_586e {N : j_M} {S : a_S} {k : Nat} (h : k < 2160) : RS N S 201 (586 + k) = enc S 586 k := rr_586 h
theorem st_sh {N : j_M} {S : a_S} {k : Nat} (h : k < 2160) : mw (RS N S) 201 (586 + k) (enc S 586 (k + 9)) = RS N (sw S 586 k (S 586 (k + 9))) := by
  by_cases h6 : k % 9 = 6
  · rw [enc_o (by omega), sp_586 h h6]
  · rw [enc_n (by omega), st_586 h h6]
theorem r_dl_m {N0 : j_M} {S : a_S} {i : Nat} (hi : i < 240) : ∀ (m n k : Nat) (N : j_M), k + m = 9 → xX12_delivers_2 (n + m + 1) (nI i) (nI k) (RS N S) = xX12_delivers_2 (n + 1) (nI i) (nI 9) (RS (m9 N S i k) S)
  | 0, n, k, N, hk => by
    have e : m9 N S i k = N := by
      funext x j
      unfold m9
      rw [if_neg (by omega)]
    rw [e, show k = 9 by omega]
  | m + 1, n, k, N, hk => by
    have ih := r_dl_m (N0 := N0) (S := S) hi m n (k + 1) (mw N 204 k (enc S 586 (9 * i + k))) (by omega)
    rw [show n + (m + 1) + 1 = (n + m + 1) + 1 by omega, xX12_delivers_2.eq_2]
    simp (disch := omega) only [e_gd, e_ix, e_oli2, e_oml2, e_obi2, e_obv2, e_add, e_mul, e_sub, e_eq, e_lt, e_le, e_eq0, e_0eq, e_lt0, e_0lt, e_le0, e_0le, e_m1, e_m1', e_m1lt, Nat.add_assoc, Nat.not_lt_zero, Nat.le_zero_eq, r_of9, rs_wo]
    rw [if_neg (by omega), show n + (m + 1) = n + m + 1 from rfl, ih]
    congr 2
    funext x j
    unfold m9 mw
    by_cases hx : x = 204 ∧ j = k
    · obtain ⟨rfl, rfl⟩ := hx
      rw [if_neg (by omega), if_pos (by omega), if_pos (by omega)]
    · by_cases hc : x = 204 ∧ k + 1 ≤ j ∧ j < 9
      · rw [if_pos hc, if_pos (by omega)]
      · rw [if_neg hc, if_neg (by omega), if_neg (by omega)]
def a_sh (S : a_S) (p : Nat) : a_S := fun r j => if r = 586 ∧ p ≤ j ∧ j < 9 * S 1 7 then S 586 (j + 9) else S r j
theorem r_dl_s {N : j_M} : ∀ (m n p : Nat) (S : a_S), S 1 7 < 240 → p + m = 9 * S 1 7 → xX12_delivers_42 (n + m + 1) (nI p) (RS N S) = xX12_delivers_42 (n + 1) (nI (9 * S 1 7)) (RS N (a_sh S p))
  | 0, n, p, S, hq, hp => by
    have e : a_sh S p = S := by
      funext r j
      unfold a_sh
      rw [if_neg (by omega)]
    rw [e, show p = 9 * S 1 7 by omega]
  | m + 1, n, p, S, hq, hp => by
    have ih := r_dl_s (N := N) m n (p + 1) (sw S 586 p (S 586 (p + 9))) (by rw [sw_r (by omega)]; exact hq) (by rw [sw_r (by omega)]; omega)
    rw [sw_r (by omega)] at ih
    rw [show n + (m + 1) + 1 = (n + m + 1) + 1 by omega, xX12_delivers_42.eq_2]
    simp (disch := omega) only [e_gd, e_ix, e_oli2, e_oml2, e_obi2, e_obv2, e_add, e_mul, e_sub, e_eq, e_lt, e_le, e_eq0, e_0eq, e_lt0, e_0lt, e_le0, e_0le, e_m1, e_m1', e_m1lt, Nat.add_assoc, Nat.not_lt_zero, Nat.le_zero_eq, sr_1, sr_586e, st_sh]
    rw [if_neg (by omega), show n + (m + 1) = n + m + 1 from rfl, ih]
    congr 2
    funext r j
    unfold a_sh
    rw [sw_r (by omega)]
    by_cases hr : r = 586
    · subst hr
      by_cases hj : j = p
      · subst hj
        rw [if_neg (by omega), sw_at, if_pos (by omega)]
      · simp (disch := omega) only [sw_i]
        have q : (p + 1 ≤ j) = (p ≤ j) := by apply propext; omega
        simp only [q]
    · rw [if_neg (fun e => hr e.1), if_neg (fun e => hr e.1), sw_r hr]
theorem g_f {S : a_S} (h : RG S) (i : Nat) : S 586 (9 * i) < 7 ∧ S 586 (9 * i + 1) < 7 ∧ S 586 (9 * i + 2) < 6 ∧ S 586 (9 * i + 3) < 8 ∧ S 586 (9 * i + 4) ≤ 12 ∧ S 586 (9 * i + 5) < 2 ∧ S 586 (9 * i + 6) ≤ 10000 ∧ S 586 (9 * i + 7) ≤ 10100 ∧ S 586 (9 * i + 8) < 4 := by
  have q := fun j => (h 586 j).2.2.2.2.2.2.2.2.2.2.2.2 rfl
  exact ⟨(q _).1 (by omega), (q _).1 (by omega), (q _).2.1 (by omega), (q _).2.2.1 (by omega), (q _).2.2.2.1 (by omega), (q _).2.2.2.2.1 (by omega), (q _).2.2.2.2.2.1 (by omega), (q _).2.2.2.2.2.2.1 (by omega), (q _).2.2.2.2.2.2.2 (by omega)⟩
theorem r_del {N : j_M} {S : a_S} {i : Nat} (h : RG S) (hu : UD S) (h1 : 1 ≤ S 1 0) (hq : S 1 7 ≤ 232) (hi : i < S 1 7) (ht : S 6961 0 < 2147482000)
    (hf : S 586 (9 * i + 2) ≠ 3 → S 586 (9 * i) < 6)
    (hb : S 586 (9 * i + 2) = 3 → S 586 (9 * i + 1) < 6 → S 6730 (S 586 (9 * i + 1)) ≤ S 1 5)
    (hc : S 586 (9 * i + 2) = 3 → S 14 (8 * S 586 (9 * i + 1) + S 586 (9 * i + 3)) + S 586 (9 * i + 4) ≤ 12) :
    xX12_delivers (nI i) (RS N S) = some (nI (S 586 (9 * i + 2)), RS (m9 N S i 0) (a_del S i)) := by
  have g := g_f h i
  have gr := RG_rm (i := i) h
  have ur : UD (a_rm S i) := UD_c hu (fun j => rm_q (by omega)) (fun j => rm_q (by omega))
  have m0 : m9 N S i 0 204 0 = nI (S 586 (9 * i)) := by
    unfold m9; rw [if_pos (by omega), enc_n (by omega)]; rfl
  have m1 : m9 N S i 0 204 1 = nI (S 586 (9 * i + 1)) := by
    unfold m9; rw [if_pos (by omega), enc_n (by omega)]
  have m2 : m9 N S i 0 204 2 = nI (S 586 (9 * i + 2)) := by
    unfold m9; rw [if_pos (by omega), enc_n (by omega)]
  have m3 : m9 N S i 0 204 3 = nI (S 586 (9 * i + 3)) := by
    unfold m9; rw [if_pos (by omega), enc_n (by omega)]
  have m4 : m9 N S i 0 204 4 = nI (S 586 (9 * i + 4)) := by
    unfold m9; rw [if_pos (by omega), enc_n (by omega)]
  have m5 : m9 N S i 0 204 5 = nI (S 586 (9 * i + 5)) := by
    unfold m9; rw [if_pos (by omega), enc_n (by omega)]
  have m6 : m9 N S i 0 204 6 = oI (S 586 (9 * i + 6)) := by
    unfold m9; rw [if_pos (by omega), enc_o (by omega)]
  have m7 : m9 N S i 0 204 7 = nI (S 586 (9 * i + 7)) := by
    unfold m9; rw [if_pos (by omega), enc_n (by omega)]
  have m8 : m9 N S i 0 204 8 = nI (S 586 (9 * i + 8)) := by
    unfold m9; rw [if_pos (by omega), enc_n (by omega)]
  have es : sw (a_sh (sw S 1 7 (S 1 7 - 1)) (9 * i)) 1 13 (S 1 13 + 1) = a_rm S i := by
    funext r j
    unfold a_sh a_rm
    rw [sw_at]
    by_cases h5 : r = 586
    · subst h5
      rw [sw_r (by omega), if_pos rfl]
      by_cases c : 9 * i ≤ j ∧ j < 9 * (S 1 7 - 1)
      · rw [if_pos ⟨rfl, c⟩, if_pos c, sw_r (by omega)]
      · rw [if_neg (fun e => c e.2), if_neg c, sw_r (by omega)]
    · by_cases h2 : r = 1
      · subst h2
        rw [if_neg h5, if_pos rfl]
        by_cases h13 : j = 13
        · subst h13
          rw [sw_at, if_neg (by omega), if_pos rfl]
        · rw [sw_i h13, if_neg (fun e => h5 e.1)]
          by_cases h7 : j = 7
          · subst h7
            rw [sw_at, if_pos rfl]
          · rw [sw_i h7, if_neg h7, if_neg h13]
      · rw [sw_r h2, if_neg (fun e => h5 e.1), sw_r h2, if_neg h5, if_neg h2]
  have e42 : xX12_delivers_42 fu (nI (9 * i)) (RS (m9 N S i 0) (sw S 1 7 (S 1 7 - 1))) = some (nI (S 586 (9 * i + 2)), RS (m9 N S i 0) (a_del S i)) := by
    have f7 : a_sh (sw S 1 7 (S 1 7 - 1)) (9 * i) 1 7 = S 1 7 - 1 := by
      unfold a_sh
      rw [if_neg (by omega), sw_at]
    have f13 : a_sh (sw S 1 7 (S 1 7 - 1)) (9 * i) 1 13 = S 1 13 := by
      unfold a_sh
      rw [if_neg (by omega), sw_i (by omega)]
    have e := r_dl_s (N := m9 N S i 0) (9 * (S 1 7 - 1) - 9 * i) (1000000 - (9 * (S 1 7 - 1) - 9 * i + 1)) (9 * i) (sw S 1 7 (S 1 7 - 1)) (by rw [sw_at]; omega) (by rw [sw_at]; omega)
    rw [sw_at] at e
    rw [fu_s (9 * (S 1 7 - 1) - 9 * i + 1) (by omega), ← Nat.add_assoc, e, xX12_delivers_42.eq_2]
    simp (disch := omega) only [e_gd, e_ix, e_oli2, e_oml2, e_obi2, e_obv2, e_add, e_mul, e_sub, e_eq, e_lt, e_le, e_eq0, e_0eq, e_lt0, e_0lt, e_le0, e_0le, e_m1, e_m1', e_m1lt, Nat.add_assoc, Nat.not_lt_zero, Nat.le_zero_eq, sr_1, st_1, f7, f13, rs_o, m1, m2, es, e_osw, e_osw0]
    rw [if_pos (Nat.le_refl _)]
    have n7 : a_rm S i 1 7 = S 1 7 - 1 := rm_7
    unfold a_del
    by_cases k1 : S 586 (9 * i + 2) = 1
    · rw [if_pos k1, if_pos k1, r_answers gr (by omega) g.2.1 (hf (by omega)) g.2.2.2.1 (by omega) m0 m3, e_obv, k1]
    · rw [if_neg k1, if_neg k1]
      by_cases k2 : S 586 (9 * i + 2) = 2
      · rw [if_pos k2, if_pos k2, r_answers gr (by omega) g.2.1 (hf (by omega)) g.2.2.2.1 (by omega) m0 m3, e_obv, k2]
      · rw [if_neg k2, if_neg k2]
        by_cases k3 : S 586 (9 * i + 2) = 3
        · rw [if_pos k3, if_pos k3, r_comes gr ur (by rw [rm_1 (by omega)]; exact h1) (by omega) g.2.1 g.1 g.2.2.2.1 (by rw [rm_q (by omega)]; exact ht) (by rw [rm_q (by omega), rm_1 (by omega)]; exact hb k3) (by rw [rm_q (by omega)]; exact hc k3) g.2.2.2.2.2.1 g.2.2.2.2.2.2.1 m0 m3 m4 m5 m6, e_obv, k3]
        · rw [if_neg k3, if_neg k3]
          by_cases k4 : S 586 (9 * i + 2) = 4
          · rw [if_pos k4, if_pos k4, r_asked gr (by omega) g.2.1 (hf (by omega)) g.2.2.2.1 g.2.2.2.2.2.2.2.1 g.2.2.2.2.2.2.2.2 m0 m3 m7 m8, e_obv, k4]
          · rw [if_neg k4, if_neg k4, r_reca gr (by omega) g.2.1 (hf (by omega)) g.2.2.2.1 g.2.2.2.2.2.2.2.1 m0 m3 m7, e_obv]
  unfold xX12_delivers
  rw [fu_s 10 (by omega), show 1000000 - 10 + 10 = 999990 + 9 + 1 by omega, r_dl_m (N0 := N) (by omega) 9 999990 0 N (by omega), xX12_delivers_2.eq_2]
  simp (disch := omega) only [e_gd, e_ix, e_oli2, e_oml2, e_obi2, e_obv2, e_add, e_mul, e_sub, e_eq, e_lt, e_le, e_eq0, e_0eq, e_lt0, e_0lt, e_le0, e_0le, e_m1, e_m1', e_m1lt, Nat.add_assoc, Nat.not_lt_zero, Nat.le_zero_eq, sr_1, st_1, if_pos]
  exact e42
