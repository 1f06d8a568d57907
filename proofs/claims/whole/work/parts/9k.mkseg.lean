/-! ===== the reference says all of it ===== -/
def MKO (M : j_M) (d c a b K : Nat) (L : List Nat) : Prop :=
  (c + L.length ≤ 200 ∧ ∃ k M', k ≤ K ∧ (∀ n, xX12_makes_12 (n + k) (nI a) M = xX12_makes_12 n (nI b) M') ∧ M' 200 18 = nI (c + L.length) ∧ M' 200 17 = nI d ∧ MKF M M' d c ∧ CON M' c L) ∨
  (200 < c + L.length ∧ ∃ k M', k ≤ K ∧ (∀ n, xX12_makes_12 (n + k) (nI a) M = some (nI 0, M')) ∧ MKX M M')
def MKP (F : Nat → Int32) (e a b : Nat) (L : List Nat) : Prop := a ≤ b ∧ ∀ (M : j_M) (s d c : Nat), M 206 = F → M 200 16 = nI s → b ≤ s → s ≤ 400 → M 200 17 = nI d → d + e ≤ 3 → M 200 18 = nI c → c ≤ 200 → TOPC M d b → MKO M d c a b (10 ^ e * (b - a)) L
theorem mk_rep {F : Nat → Int32} {e o b : Nat} {B : List Nat} (ih : MKP F e (o + 1) b B) (hE : F (4 * o + 3) = nI b) : ∀ (r : Nat) (M : j_M) (s d c : Nat), M 206 = F → M 200 16 = nI s → b ≤ s → s ≤ 400 → M 200 17 = nI (d + 1) → d + 1 + e ≤ 3 → M 209 d = nI o → M 210 d = nI (r + 1) → r < 9 → M 200 18 = nI c → c ≤ 200 → MKO M d c (o + 1) b ((r + 1) * (10 ^ e * (b - (o + 1)) + 1)) (rep (r + 1) B) := by
  intro r
  induction r with
  | zero =>
    intro M s d c h6 hs hbs hs4 h17 hde h9 h10 hr h18 hc
    have hob := ih.1
    rw [show rep (0 + 1) B = B from List.append_nil B, Nat.zero_add, Nat.one_mul]
    rcases ih.2 M s (d + 1) c h6 hs hbs hs4 h17 hde h18 hc (Or.inr ⟨d, o, b, rfl, by omega, h9, by omega, by rw [h6]; exact hE, Nat.le_refl _, by omega⟩) with ⟨q, k, M1, k1, e1, r1, r2, r3, r4⟩ | ⟨q, k, M1, k1, e1, r1⟩
    · have e2 := mk_end (M := M1) (by rw [r3.2.1 16 (by omega) (by omega)]; exact hs) hs4 r2 (by omega) (by rw [(r3.2.2.1 d (by omega)).1]; exact h9) (by omega) (by rw [r3.1 206 (by omega) (by omega) (by omega) (by omega), h6]; exact hE) (by omega) (by rw [(r3.2.2.1 d (by omega)).2]; exact h10) (by omega)
      refine Or.inl ⟨q, k + 1, mw (mw M1 210 d (nI 0)) 200 17 (nI d), by omega, fun n => ?_, ?_, mw_at (by omega), ⟨fun x a1 a2 a3 a4 => ?_, fun j a1 a2 => ?_, fun j a1 => ⟨?_, ?_⟩, fun j a1 => ?_⟩, fun i j hi hj => ?_⟩
      · rw [show n + (k + 1) = (n + 1) + k by omega, e1, e2, if_pos rfl]
      · rw [mw_ne (by omega), mw_oth (by omega), r1]
      · rw [mw_oth a1, mw_oth a4, r3.1 x a1 a2 a3 a4]
      · rw [mw_ne a1, mw_oth (by omega), r3.2.1 j a1 a2]
      · rw [mw_oth (by omega), mw_oth (by omega), (r3.2.2.1 j (by omega)).1]
      · rw [mw_oth (by omega), mw_ne (by omega), (r3.2.2.1 j (by omega)).2]
      · rw [mw_oth (by omega), mw_oth (by omega), r3.2.2.2 j a1]
      · rw [mw_oth (by omega), mw_oth (by omega), r4 i j hi hj]
    · exact Or.inr ⟨q, k, M1, by omega, e1, r1⟩
  | succ r ihr =>
    intro M s d c h6 hs hbs hs4 h17 hde h9 h10 hr h18 hc
    have hob := ih.1
    have hrl : (rep (r + 1 + 1) B).length = B.length + (rep (r + 1) B).length := List.length_append
    have hK : (r + 1 + 1) * (10 ^ e * (b - (o + 1)) + 1) = (r + 1) * (10 ^ e * (b - (o + 1)) + 1) + (10 ^ e * (b - (o + 1)) + 1) := Nat.succ_mul _ _
    rcases ih.2 M s (d + 1) c h6 hs hbs hs4 h17 hde h18 hc (Or.inr ⟨d, o, b, rfl, by omega, h9, by omega, by rw [h6]; exact hE, Nat.le_refl _, by omega⟩) with ⟨q, k, M1, k1, e1, r1, r2, r3, r4⟩ | ⟨q, k, M1, k1, e1, r1⟩
    · have e2 := mk_end (M := M1) (by rw [r3.2.1 16 (by omega) (by omega)]; exact hs) hs4 r2 (by omega) (by rw [(r3.2.2.1 d (by omega)).1]; exact h9) (by omega) (by rw [r3.1 206 (by omega) (by omega) (by omega) (by omega), h6]; exact hE) (by omega) (by rw [(r3.2.2.1 d (by omega)).2]; exact h10) (by omega)
      have f2 : MKF M (mw M1 210 d (nI (r + 1))) d c := by
        refine ⟨fun x a1 a2 a3 a4 => ?_, fun j a1 a2 => ?_, fun j a1 => ⟨?_, ?_⟩, fun j a1 => ?_⟩
        · rw [mw_oth a4, r3.1 x a1 a2 a3 a4]
        · rw [mw_oth (by omega), r3.2.1 j a1 a2]
        · rw [mw_oth (by omega), (r3.2.2.1 j (by omega)).1]
        · rw [mw_ne (by omega), (r3.2.2.1 j (by omega)).2]
        · rw [mw_oth (by omega), r3.2.2.2 j a1]
      have c2 : CON (mw M1 210 d (nI (r + 1))) c B := fun i j hi hj => by rw [mw_oth (by omega), r4 i j hi hj]
      have ru : ∀ n, xX12_makes_12 (n + 1 + k) (nI (o + 1)) M = xX12_makes_12 n (nI (o + 1)) (mw M1 210 d (nI (r + 1))) := fun n => by rw [e1, e2, if_neg (by omega)]
      rcases ihr (mw M1 210 d (nI (r + 1))) s d (c + B.length) (by rw [mw_oth (by omega), r3.1 206 (by omega) (by omega) (by omega) (by omega), h6]) (by rw [mw_oth (by omega), r3.2.1 16 (by omega) (by omega), hs]) hbs hs4 (by rw [mw_oth (by omega), r2]) hde (by rw [mw_oth (by omega), (r3.2.2.1 d (by omega)).1, h9]) (mw_at (by omega)) (by omega) (by rw [mw_oth (by omega), r1]) q with ⟨p, m, M3, m1, e3, s1, s2, s3, s4⟩ | ⟨p, m, M3, m1, e3, s1⟩
      · refine Or.inl ⟨by omega, m + 1 + k, M3, by omega, fun n => ?_, by rw [s1, hrl, Nat.add_assoc], s2, MKF_t f2 s3 (Nat.le_refl _) (Nat.le_refl _) (Nat.le_refl _) (by omega), CON_t c2 rfl s4 s3.2.2.2⟩
        rw [show n + (m + 1 + k) = (n + m) + 1 + k by omega, ru, e3]
      · refine Or.inr ⟨by omega, m + 1 + k, M3, by omega, fun n => ?_, MKX_t f2 s1⟩
        rw [show n + (m + 1 + k) = (n + m) + 1 + k by omega, ru, e3]
    · exact Or.inr ⟨by omega, k, M1, by omega, e1, r1⟩
theorem pw10 (e : Nat) : 1 ≤ 10 ^ e := Nat.one_le_pow _ _ (by omega)
theorem mk_seg {F : Nat → Int32} {e a b : Nat} {L : List Nat} (h : SEG F e a b L) : MKP F e a b L := by
  refine h (MKP F) (fun e a => ⟨Nat.le_refl _, ?_⟩) (fun e a b L v x y h ha => ⟨Nat.le_succ_of_le h.1, ?_⟩) (fun e a o b L t B h hl hb => ⟨?_, ?_⟩)
  · intro M s d c h6 hs hbs hs4 h17 hde h18 hc ht
    exact Or.inl ⟨hc, 0, M, Nat.zero_le _, fun n => rfl, h18, h17, MKF_r, fun i j hi => absurd hi (Nat.not_lt_zero _)⟩
  · intro M s d c h6 hs hbs hs4 h17 hde h18 hc ht
    have hab := h.1
    have hX := pw10 e
    have hK : 10 ^ e * (b + 1 - a) = 10 ^ e * (b - a) + 10 ^ e := by rw [show b + 1 - a = (b - a) + 1 by omega, Nat.mul_add, Nat.mul_one]
    rw [hK]
    have hll : (L ++ [v + 16 * x + 2048 * y]).length = L.length + 1 := List.length_append
    have ht2 : TOPC M d b := by
      rcases ht with q | ⟨d', o, E, q1, q2, q3, q4, q5, q6, q7⟩
      · exact Or.inl q
      · exact Or.inr ⟨d', o, E, q1, q2, q3, q4, q5, by omega, q7⟩
    rcases h.2 M s d c h6 hs (by omega) hs4 h17 hde h18 hc ht2 with ⟨q, k, M1, k1, e1, r1, r2, r3, r4⟩ | ⟨q, k, M1, k1, e1, r1⟩
    · have ht3 : TOPC M1 d (b + 1) := by
        rcases ht with q | ⟨d', o, E, q1, q2, q3, q4, q5, q6, q7⟩
        · exact Or.inl q
        · exact Or.inr ⟨d', o, E, q1, q2, by rw [(r3.2.2.1 d' (by omega)).1]; exact q3, q4, by rw [r3.1 206 (by omega) (by omega) (by omega) (by omega)]; exact q5, q6, q7⟩
      obtain ⟨w1, w2⟩ := mk_act (n := 0) (l := b) (b := b + 1) (M := M1) (by rw [r3.2.1 16 (by omega) (by omega)]; exact hs) hs4 r2 (by omega) r1 q (by omega) (by omega) ht3 (by rw [r3.1 206 (by omega) (by omega) (by omega) (by omega), h6]; exact ha)
      by_cases q2 : c + L.length < 200
      · obtain ⟨M2, e2, s1, s2, s3, s4⟩ := w1 q2
        refine Or.inl ⟨by omega, k + 1, M2, by omega, fun n => ?_, by rw [s1, hll, Nat.add_assoc], s2, MKF_t r3 s3 (Nat.le_refl _) (Nat.le_refl _) (Nat.le_refl _) (by omega), CON_t r4 rfl s4 s3.2.2.2⟩
        rw [show n + (k + 1) = (n + 1) + k by omega, e1, e2]
      · obtain ⟨M2, e2, s1⟩ := w2 (by omega)
        refine Or.inr ⟨by omega, k + 1, M2, by omega, fun n => ?_, MKX_t r3 s1⟩
        rw [show n + (k + 1) = (n + 1) + k by omega, e1, e2]
    · exact Or.inr ⟨by omega, k, M1, by omega, e1, r1⟩
  · have h1 := h.1
    have h2 := hb.1
    omega
  · intro M s d c h6 hs hbs hs4 h17 hde h18 hc ht
    have hao := h.1
    have hob := hb.1
    have hX := pw10 e
    have hK : 10 ^ (e + 1) * (o - a) + 1 + t * (10 ^ e * (b - (o + 1)) + 1) ≤ 10 ^ (e + 1) * (b - a) := by
      obtain ⟨i, rfl⟩ : ∃ i, o = a + i := ⟨o - a, by omega⟩
      obtain ⟨j, rfl⟩ : ∃ j, b = a + i + 1 + j := ⟨b - (a + i + 1), by omega⟩
      rw [show a + i - a = i by omega, show a + i + 1 + j - (a + i + 1) = j by omega, show a + i + 1 + j - a = i + 1 + j by omega, Nat.pow_succ]
      have e1 : 10 ^ e * 10 * (i + 1 + j) = 10 ^ e * 10 * i + 10 ^ e * 10 + 10 * (10 ^ e * j) := by
        rw [Nat.mul_add, Nat.mul_add, Nat.mul_one, Nat.mul_assoc (10 ^ e) 10 j, Nat.mul_left_comm (10 ^ e) 10 j]
      have e2 : t * (10 ^ e * j + 1) ≤ 9 * (10 ^ e * j + 1) := Nat.mul_le_mul_right _ hl.2.2.2.2
      rw [e1]
      omega
    have hll : (L ++ rep t B).length = L.length + (rep t B).length := List.length_append
    have hlt := hl.2.2.2
    obtain ⟨r, rfl⟩ : ∃ r, t = r + 1 := ⟨t - 1, by omega⟩
    have ht2 : TOPC M d o := by
      rcases ht with q | ⟨d', o', E, q1, q2, q3, q4, q5, q6, q7⟩
      · exact Or.inl q
      · exact Or.inr ⟨d', o', E, q1, q2, q3, q4, q5, by omega, q7⟩
    rcases h.2 M s d c h6 hs (by omega) hs4 h17 hde h18 hc ht2 with ⟨q, k, M1, k1, e1, r1, r2, r3, r4⟩ | ⟨q, k, M1, k1, e1, r1⟩
    · have ht3 : TOPC M1 d b := by
        rcases ht with q | ⟨d', o', E, q1, q2, q3, q4, q5, q6, q7⟩
        · exact Or.inl q
        · exact Or.inr ⟨d', o', E, q1, q2, by rw [(r3.2.2.1 d' (by omega)).1]; exact q3, q4, by rw [r3.1 206 (by omega) (by omega) (by omega) (by omega)]; exact q5, q6, q7⟩
      have m6 : M1 206 = F := by rw [r3.1 206 (by omega) (by omega) (by omega) (by omega), h6]
      have m16 : M1 200 16 = nI s := by rw [r3.2.1 16 (by omega) (by omega)]; exact hs
      have e2 := mk_open (l := o) (b := b) (t := r + 1) m16 hs4 r2 (by omega) (by omega) (by omega) ht3 (by rw [m6]; exact hl.1) (by rw [m6]; exact hl.2.1)
      have f2 : MKF M1 (mw (mw (mw M1 209 d (nI o)) 210 d (nI (r + 1))) 200 17 (nI (d + 1))) d (c + L.length) := by
        refine ⟨fun x a1 a2 a3 a4 => ?_, fun j a1 a2 => ?_, fun j a1 => ⟨?_, ?_⟩, fun j a1 => ?_⟩
        · rw [mw_oth a1, mw_oth a4, mw_oth a3]
        · rw [mw_ne a1, mw_oth (by omega), mw_oth (by omega)]
        · rw [mw_oth (by omega), mw_oth (by omega), mw_ne (by omega)]
        · rw [mw_oth (by omega), mw_ne (by omega), mw_oth (by omega)]
        · rw [mw_oth (by omega), mw_oth (by omega), mw_oth (by omega)]
      have c2 : CON (mw (mw (mw M1 209 d (nI o)) 210 d (nI (r + 1))) 200 17 (nI (d + 1))) c L := fun i j hi hj => by rw [mw_oth (by omega), mw_oth (by omega), mw_oth (by omega), r4 i j hi hj]
      have g3 := mk_rep (r := r) hb hl.2.2.1 (mw (mw (mw M1 209 d (nI o)) 210 d (nI (r + 1))) 200 17 (nI (d + 1))) s d (c + L.length) (by rw [mw_oth (by omega), mw_oth (by omega), mw_oth (by omega), m6]) (by rw [mw_ne (by omega), mw_oth (by omega), mw_oth (by omega), m16]) hbs hs4 (mw_at (by omega)) (by omega) (by rw [mw_oth (by omega), mw_oth (by omega), mw_at (by omega)]) (by rw [mw_oth (by omega), mw_at (by omega)]) (by omega) (by rw [mw_ne (by omega), mw_oth (by omega), mw_oth (by omega), r1]) q
      have f3 := MKF_t r3 f2 (Nat.le_refl d) (Nat.le_refl _) (Nat.le_refl c) (by omega)
      rcases g3 with ⟨p, m, M3, m1, e3, s1, s2, s3, s4⟩ | ⟨p, m, M3, m1, e3, s1⟩
      · refine Or.inl ⟨by omega, m + 1 + k, M3, by omega, fun n => ?_, by rw [s1, hll, Nat.add_assoc], s2, MKF_t f3 s3 (Nat.le_refl _) (Nat.le_refl _) (Nat.le_refl _) (by omega), CON_t c2 rfl s4 s3.2.2.2⟩
        rw [show n + (m + 1 + k) = (n + m) + 1 + k by omega, e1, e2, e3]
      · refine Or.inr ⟨by omega, m + 1 + k, M3, by omega, fun n => ?_, MKX_t f3 s1⟩
        rw [show n + (m + 1 + k) = (n + m) + 1 + k by omega, e1, e2, e3]
    · exact Or.inr ⟨by omega, k, M1, by omega, e1, r1⟩
/-- all of it -/
theorem r_makes {M : j_M} {s : Nat} {L : List Nat} (h : SEG (M 206) 3 0 s L) (hs : M 200 16 = nI s) (hs4 : s ≤ 400) : (L.length ≤ 200 ∧ ∃ M', xX12_makes M = some (nI 1, M') ∧ M' 200 18 = nI L.length ∧ (∀ x, x ≠ 200 → x ≠ 208 → x ≠ 209 → x ≠ 210 → M' x = M x) ∧ (∀ j, j ≠ 17 → j ≠ 18 → M' 200 j = M 200 j) ∧ CON M' 0 L) ∨ (200 < L.length ∧ ∃ M', xX12_makes M = some (nI 0, M') ∧ MKX M M') := by
  have hm := (mk_seg h).2 (mw (mw M 200 18 (nI 0)) 200 17 (nI 0)) s 0 0 (by rw [mw_oth (by omega), mw_oth (by omega)]) (by rw [mw_ne (by omega), mw_ne (by omega), hs]) (Nat.le_refl _) hs4 (mw_at (by omega)) (by omega) (by rw [mw_ne (by omega), mw_at (by omega)]) (by omega) (Or.inl rfl)
  have st : xX12_makes M = xX12_makes_12 fu (nI 0) (mw (mw M 200 18 (nI 0)) 200 17 (nI 0)) := by
    unfold xX12_makes
    rw [e_oml2, e_oml2]
  rw [st]
  have hK : 10 ^ 3 * (s - 0) ≤ 400000 := by omega
  rcases hm with ⟨q, k, M1, k1, e1, r1, r2, r3, r4⟩ | ⟨q, k, M1, k1, e1, r1⟩
  · refine Or.inl ⟨by omega, M1, ?_, by rw [r1, Nat.zero_add], fun x a b c d => ?_, fun j a b => ?_, r4⟩
    · rw [show fu = (999999 - k) + 1 + k by unfold fu; omega, e1, xX12_makes_12.eq_2, r3.2.1 16 (by omega) (by omega), mw_ne (by omega), mw_ne (by omega), hs, e_oli2, if_neg (by rw [e_lt (by omega) (by omega)]; omega), r2, e_oli2, if_pos (by decide)]
    · rw [r3.1 x a b c d, mw_oth a, mw_oth a]
    · rw [r3.2.1 j a b, mw_ne a, mw_ne b]
  · refine Or.inr ⟨by omega, M1, ?_, r1.1, ?_, fun x a b c d => ?_, fun j a b c d => ?_⟩
    · rw [show fu = (1000000 - k) + k by unfold fu; omega, e1]
    · rw [r1.2.1, mw_ne (by omega), mw_ne (by omega)]
    · rw [r1.2.2.1 x a b c d, mw_oth a, mw_oth a]
    · rw [r1.2.2.2 j a b c d, mw_ne a, mw_ne b]
