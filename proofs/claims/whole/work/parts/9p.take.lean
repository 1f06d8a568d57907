/-! ===== text: what is taken ===== -/
theorem acv_c {g h : Nat → Nat} (h0 : g 0 = h 0) (h1 : g 1 = h 1) (h2 : g 2 = h 2) : acv g = acv h := by
  unfold acv
  rw [h0, h1, h2]
theorem AOK_c {g h : Nat → Nat} (h0 : g 0 = h 0) (h1 : g 1 = h 1) (h2 : g 2 = h 2) (ha : AOK h) : AOK g := by
  unfold AOK at ha ⊢
  rw [h0, h1, h2]
  exact ha
def PRF (S : a_S) (c : Nat) (L : List Nat) (i : Nat) : a_S := fun r j =>
  if r = 3118 ∧ j = c then 0 else if r = 3112 ∧ j = c then L.length else if r = 3130 ∧ 600 * c + i ≤ j ∧ j < 600 * c + 600 then (if j - 600 * c < 3 * L.length then fld (L.getD ((j - 600 * c) / 3) 0) ((j - 600 * c) % 3) else 0) else S r j
theorem prf_o {S : a_S} {c i r j : Nat} {L : List Nat} (h : r ≠ 3118) (h1 : r ≠ 3112) (h2 : r ≠ 3130) : PRF S c L i r j = S r j := by
  unfold PRF
  rw [if_neg (by omega), if_neg (by omega), if_neg (by omega)]
theorem prf_s {S : a_S} {c i : Nat} {L : List Nat} (hi : i < 600) : PRF (sw S 3130 (600 * c + i) (if i < 3 * L.length then fld (L.getD (i / 3) 0) (i % 3) else 0)) c L (i + 1) = PRF S c L i := by
  funext r j
  unfold PRF
  by_cases h1 : r = 3118 ∧ j = c
  · rw [if_pos h1, if_pos h1]
  · rw [if_neg h1, if_neg h1]
    by_cases h2 : r = 3112 ∧ j = c
    · rw [if_pos h2, if_pos h2]
    · rw [if_neg h2, if_neg h2]
      by_cases h3 : r = 3130
      · by_cases h4 : j = 600 * c + i
        · rw [if_neg (show ¬ (r = 3130 ∧ 600 * c + (i + 1) ≤ j ∧ j < 600 * c + 600) by omega), if_pos (show r = 3130 ∧ 600 * c + i ≤ j ∧ j < 600 * c + 600 by omega), h3, h4, sw_at, show 600 * c + i - 600 * c = i by omega]
        · rw [sw_i h4]
          by_cases h5 : 600 * c + (i + 1) ≤ j ∧ j < 600 * c + 600
          · rw [if_pos (show r = 3130 ∧ 600 * c + (i + 1) ≤ j ∧ j < 600 * c + 600 from ⟨h3, h5⟩), if_pos (show r = 3130 ∧ 600 * c + i ≤ j ∧ j < 600 * c + 600 by omega)]
          · rw [if_neg (show ¬ (r = 3130 ∧ 600 * c + (i + 1) ≤ j ∧ j < 600 * c + 600) by omega), if_neg (show ¬ (r = 3130 ∧ 600 * c + i ≤ j ∧ j < 600 * c + 600) by omega)]
      · rw [if_neg (show ¬ (r = 3130 ∧ 600 * c + (i + 1) ≤ j ∧ j < 600 * c + 600) by omega), if_neg (show ¬ (r = 3130 ∧ 600 * c + i ≤ j ∧ j < 600 * c + 600) by omega), sw_r h3]
theorem r_t106 {k c : Nat} {L : List Nat} {N : j_M} (hc : c < 6) (hL : L.length ≤ 200) (h18 : N 200 18 = nI L.length) (hN : CON N 0 L) : ∀ (m i : Nat) (S : a_S), i + m = 600 → xX12_text_106 (k + m + 1) (nI c) (nI i) (RS N S) = some (nI L.length, RS N (PRF S c L i))
  | 0, i, S, h => by
    have hi : i = 600 := by omega
    subst hi
    have e1 : sw (sw S 3112 c L.length) 3118 c 0 = PRF S c L 600 := by
      funext r j
      unfold PRF sw
      by_cases h1 : r = 3118 ∧ j = c
      · rw [if_pos h1, if_pos h1]
      · rw [if_neg h1, if_neg h1]
        by_cases h2 : r = 3112 ∧ j = c
        · rw [if_pos h2, if_pos h2]
        · rw [if_neg h2, if_neg h2, if_neg (by omega)]
    rw [show k + 0 + 1 = k + 1 from rfl, xX12_text_106.eq_2, if_pos (by decide), rs_o (by omega), h18, e_oli2, e_add, e_gd (by omega) (by omega), e_ix2 (by omega), st_3112 hc, e_oml2, e_add, e_gd (by omega) (by omega), e_ix2 (by omega), st_3118 hc, e_oml2, rs_o (by omega), h18, e_oli2, e1]
  | m + 1, i, S, h => by
    have e148 : ∀ v, xX12_text_148 (xX12_text_106 (k + m + 1)) (nI c) (nI i) (nI 3130 + nI 600 * nI c + nI i) (nI v) (RS N S) = xX12_text_106 (k + m + 1) (nI c) (nI (i + 1)) (RS N (sw S 3130 (600 * c + i) v)) := by
      intro v
      unfold xX12_text_148
      rw [e_mul, e_add, e_add, e_gd (by omega) (by omega), e_ix2 (by omega), e_oml2, e_add, Nat.add_assoc 3130, st_3130 (by omega)]
    have ih := r_t106 (k := k) hc hL h18 hN m (i + 1) (sw S 3130 (600 * c + i) (if i < 3 * L.length then fld (L.getD (i / 3) 0) (i % 3) else 0)) (by omega)
    rw [prf_s (by omega), ← e148] at ih
    rw [← ih, show k + (m + 1) + 1 = (k + m + 1) + 1 by omega, xX12_text_106.eq_2, if_neg (by rw [e_le (by omega) (by omega)]; omega), rs_o (by omega), h18, e_oli2, e_mul]
    by_cases q : i < 3 * L.length
    · have hv := hN (i / 3) (i % 3) (by omega) (by omega)
      rw [show 3 * (0 + i / 3) + i % 3 = i by omega] at hv
      rw [if_neg (by rw [e_le (by omega) (by omega)]; omega), if_pos q, e_gd (by omega) (by omega), e_ix2 (by omega), rs_o (by omega), hv, e_oli2]
    · rw [if_pos (by rw [e_le (by omega) (by omega)]; omega), if_neg q]
theorem OKS_prf {S : a_S} {b c : Nat} {L : List Nat} (h : OKS S b) (hL : L.length ≤ 200) (hm : ∀ m, m ∈ L → MOK m) (hc : c < 6) : OKS (PRF S c L 0) b := by
  obtain ⟨h1, h2, h3, h4, h5, h6⟩ := h
  obtain ⟨p1, p2, p3, p4, p5⟩ := h2
  refine ⟨INV_log h1 (fun r i => ?_) (fun r i hr => prf_o (by omega) (by omega) (by omega)) (fun i _ _ _ => prf_o (by omega) (by omega) (by omega)), ⟨fun d hd => ?_, fun d k hd hk => ?_, ?_, ?_, fun p hp => ?_⟩, TRC_c h3 (fun i => prf_o (by omega) (by omega) (by omega)), ?_, ?_, h6⟩
  · by_cases q : r = 3118 ∨ r = 3112 ∨ r = 3130
    · unfold rg
      omega
    · rw [prf_o (by omega) (by omega) (by omega)]
      exact h1.1 r i
  · have := p1 d hd
    rw [prf_o (r := 3124) (by omega) (by omega) (by omega)]
    unfold PRF
    by_cases q : d = c
    · rw [if_neg (by omega), if_pos ⟨rfl, q⟩, if_pos ⟨rfl, q⟩]
      omega
    · rw [if_neg (by omega), if_neg (by omega), if_neg (by omega), if_neg (by omega), if_neg (by omega)]
      exact this
  · by_cases q : d = c
    · subst q
      have hk2 : k < L.length := by
        unfold PRF at hk
        rw [if_neg (by omega), if_pos ⟨rfl, rfl⟩] at hk
        exact hk
      have e : ∀ j, j < 3 → PRF S d L 0 3130 (3 * (200 * d + k) + j) = fld (L.getD k 0) j := by
        intro j hj
        unfold PRF
        rw [if_neg (by omega), if_neg (by omega), if_pos (by omega), if_pos (by omega), show (3 * (200 * d + k) + j - 600 * d) / 3 = k by omega, show (3 * (200 * d + k) + j - 600 * d) % 3 = j by omega]
      exact AOK_c (e 0 (by omega)) (e 1 (by omega)) (e 2 (by omega)) (fld_ok (hm _ (getD_mem hk2)))
    · have hk2 : k < S 3112 d := by
        unfold PRF at hk
        rw [if_neg (by omega), if_neg (by omega), if_neg (by omega)] at hk
        exact hk
      have := p1 d hd
      have e : ∀ j, j < 3 → PRF S c L 0 3130 (3 * (200 * d + k) + j) = S 3130 (3 * (200 * d + k) + j) := by
        intro j hj
        unfold PRF
        rw [if_neg (by omega), if_neg (by omega), if_neg (by omega)]
      exact AOK_c (e 0 (by omega)) (e 1 (by omega)) (e 2 (by omega)) (p2 d k hd hk2)
  · rw [prf_o (by omega) (by omega) (by omega)]; exact p3
  · rw [prf_o (by omega) (by omega) (by omega), prf_o (by omega) (by omega) (by omega)]; exact p4
  · rw [prf_o (by omega) (by omega) (by omega)] at hp
    simp only [fun j => prf_o (S := S) (c := c) (L := L) (i := 0) (r := 7364) (j := j) (by omega) (by omega) (by omega)]
    exact p5 p hp
  · rw [prf_o (by omega) (by omega) (by omega)]; exact h4
  · rw [prf_o (by omega) (by omega) (by omega), prf_o (by omega) (by omega) (by omega)]; exact h5
theorem SCP_prf {M N : j_M} {S : a_S} {c : Nat} {L : List Nat} (h : SCP M 1 S) (hp : PR S) (hL : L.length ≤ 200) (hm : ∀ m, m ∈ L → MOK m) (hc : c < 6) (n24 : ∀ d, N 24 d = if d = c then nI L.length else M 24 d) (n25 : ∀ d, N 25 d = if d = c then nI 0 else M 25 d) (n26 : N 26 = M 26) (n22 : N 22 = M 22) (n27 : N 27 = M 27) (n23 : ∀ j, N 23 j = if 200 * c ≤ j ∧ j < 200 * c + L.length then nI (L.getD (j - 200 * c) 0) else M 23 j) : SCP N 1 (PRF S c L 0) := by
  obtain ⟨h1, h2, h3, h4, h5, h6⟩ := h
  have p1 := hp.1
  refine ⟨fun d hd => ?_, fun d k hd hk => ?_, ?_, ?_, ?_, fun p hq => ?_⟩
  · obtain ⟨a1, a2, a3⟩ := h1 d hd
    rw [prf_o (r := 3124) (by omega) (by omega) (by omega)]
    rw [show 1 + 23 = 24 from rfl, show 1 + 24 = 25 from rfl, show 1 + 25 = 26 from rfl] at *
    rw [n24, n25, n26]
    unfold PRF
    by_cases q : d = c
    · rw [if_pos q, if_pos q, if_neg (by omega), if_pos ⟨rfl, q⟩, if_pos ⟨rfl, q⟩]
      exact ⟨rfl, rfl, a3⟩
    · rw [if_neg q, if_neg q, if_neg (by omega), if_neg (by omega), if_neg (by omega), if_neg (by omega), if_neg (by omega)]
      exact ⟨a1, a2, a3⟩
  · rw [show 1 + 22 = 23 from rfl] at *
    rw [n23]
    by_cases q : d = c
    · subst q
      have hk2 : k < L.length := by
        unfold PRF at hk
        rw [if_neg (by omega), if_pos ⟨rfl, rfl⟩] at hk
        exact hk
      have e : ∀ j, j < 3 → PRF S d L 0 3130 (3 * (200 * d + k) + j) = fld (L.getD k 0) j := by
        intro j hj
        unfold PRF
        rw [if_neg (by omega), if_neg (by omega), if_pos (by omega), if_pos (by omega), show (3 * (200 * d + k) + j - 600 * d) / 3 = k by omega, show (3 * (200 * d + k) + j - 600 * d) % 3 = j by omega]
      rw [if_pos (by omega), acv_c (h := fld (L.getD k 0)) (e 0 (by omega)) (e 1 (by omega)) (e 2 (by omega)), fld_a (hm _ (getD_mem hk2)), show 200 * d + k - 200 * d = k by omega]
    · have hk2 : k < S 3112 d := by
        unfold PRF at hk
        rw [if_neg (by omega), if_neg (by omega), if_neg (by omega)] at hk
        exact hk
      have := p1 d hd
      have e : ∀ j, j < 3 → PRF S c L 0 3130 (3 * (200 * d + k) + j) = S 3130 (3 * (200 * d + k) + j) := by
        intro j hj
        unfold PRF
        rw [if_neg (by omega), if_neg (by omega), if_neg (by omega)]
      rw [if_neg (by omega), acv_c (h := fun j => S 3130 (3 * (200 * d + k) + j)) (e 0 (by omega)) (e 1 (by omega)) (e 2 (by omega))]
      exact h2 d k hd hk2
  · rw [prf_o (by omega) (by omega) (by omega), show 1 + 21 = 22 from rfl, n22]; exact h3
  · rw [prf_o (by omega) (by omega) (by omega), show 1 + 21 = 22 from rfl, n22]; exact h4
  · rw [prf_o (by omega) (by omega) (by omega), show 1 + 21 = 22 from rfl, n22]; exact h5
  · rw [prf_o (by omega) (by omega) (by omega)] at hq
    simp only [fun j => prf_o (S := S) (c := c) (L := L) (i := 0) (r := 7364) (j := j) (by omega) (by omega) (by omega)]
    rw [show 1 + 26 = 27 from rfl, n27]
    exact h6 p hq
theorem CVS_prf {M : j_M} {t c : Nat} {S : a_S} {L : List Nat} (h : CVS M t S) : CVS M t (PRF S c L 0) := by
  intro k j hk h1 h2
  rw [h k j hk h1 h2]
  refine (cv_c hk (fun r i hc => prf_o ?_ ?_ ?_)).symm <;> unfold cu cu1 at hc <;> omega
