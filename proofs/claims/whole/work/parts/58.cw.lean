/-! ===== the class's words of bits ===== -/
theorem f_eq0 {ρ : Type} {a : Nat} {X Y : ρ} (h : a < 2147483648) : (if nI a = (0 : Int32) then X else Y) = if a = 0 then X else Y := by simp only [e_eq0 h]
theorem f_eq {ρ : Type} {a b : Nat} {X Y : ρ} (h : a < 2147483648) (h2 : b < 2147483648) : (if nI a = nI b then X else Y) = if a = b then X else Y := by simp only [e_eq h h2]
theorem f_lt {ρ : Type} {a b : Nat} {X Y : ρ} (h : a < 2147483648) (h2 : b < 2147483648) : (if nI a < nI b then X else Y) = if a < b then X else Y := by simp only [e_lt h h2]
theorem f_le {ρ : Type} {a b : Nat} {X Y : ρ} (h : a < 2147483648) (h2 : b < 2147483648) : (if nI a ≤ nI b then X else Y) = if a ≤ b then X else Y := by simp only [e_le h h2]
theorem f_m1 {ρ : Type} {a : Nat} {X Y : ρ} (h : a < 2147483648) : (if nI a = (-1 : Int32) then X else Y) = Y := by simp only [e_m1 h, if_false]
theorem f_om1 {ρ : Type} {a : Nat} {X Y : ρ} (h : a < 2147483648) : (if oI a = (-1 : Int32) then X else Y) = if a = 0 then X else Y := by simp only [oI_m1 h]
theorem f_oeq {ρ : Type} {a n : Nat} {X Y : ρ} (h : a < 2147483648) (h2 : n < 2147483647) : (if oI a = nI n then X else Y) = if a = n + 1 then X else Y := by simp only [oI_eq h h2]
theorem n_bit (n k : Nat) : n &&& 2 ^ k = 2 ^ k * (n / 2 ^ k % 2) := by
  by_cases h : n / 2 ^ k % 2 = 1
  · rw [h, Nat.mul_one]
    apply Nat.eq_of_testBit_eq
    intro i
    rw [Nat.testBit_and, Nat.testBit_two_pow]
    by_cases hk : k = i
    · subst hk
      rw [Nat.testBit_eq_decide_div_mod_eq, h]
      simp
    · simp [hk]
  · have h0 : n / 2 ^ k % 2 = 0 := by have := Nat.mod_lt (n / 2 ^ k) (show 0 < 2 by omega); omega
    rw [h0, Nat.mul_zero]
    apply Nat.eq_of_testBit_eq
    intro i
    rw [Nat.testBit_and, Nat.testBit_two_pow, Nat.zero_testBit]
    by_cases hk : k = i
    · subst hk
      rw [Nat.testBit_eq_decide_div_mod_eq, h0]
      simp
    · simp [hk]
theorem n_b1 (n : Nat) : n &&& 1 = n % 2 := n_mask n 1
theorem n_b2 (n : Nat) : n &&& 2 = 2 * (n / 2 % 2) := n_bit n 1
theorem n_b16 (n : Nat) : n &&& 16 = 16 * (n / 16 % 2) := n_bit n 4
theorem n_b32 (n : Nat) : n &&& 32 = 32 * (n / 32 % 2) := n_bit n 5
theorem n_m17 {n : Nat} (h : n < 4294967296) : n &&& 4294967279 = n % 16 + 32 * (n / 32) := by
  have e1 : (n &&& 4294967279) / 2 ^ 5 = (n / 2 ^ 5) &&& (4294967279 / 2 ^ 5) := Nat.and_div_two_pow
  have e2 : (n &&& 4294967279) % 2 ^ 5 = (n % 2 ^ 5) &&& (4294967279 % 2 ^ 5) := Nat.and_mod_two_pow
  have q1 : n / 2 ^ 5 &&& 4294967279 / 2 ^ 5 = n / 2 ^ 5 % 2 ^ 27 := n_mask (n / 2 ^ 5) 27
  have q2 : n % 2 ^ 5 &&& 4294967279 % 2 ^ 5 = n % 2 ^ 5 % 2 ^ 4 := n_mask (n % 2 ^ 5) 4
  rw [q1] at e1
  rw [q2] at e2
  omega
theorem n_mm2 {n : Nat} (h : n < 4294967296) : n &&& 4294967294 = 2 * (n / 2) := by
  have e1 : (n &&& 4294967294) / 2 ^ 1 = (n / 2 ^ 1) &&& (4294967294 / 2 ^ 1) := Nat.and_div_two_pow
  have e2 : (n &&& 4294967294) % 2 ^ 1 = (n % 2 ^ 1) &&& (4294967294 % 2 ^ 1) := Nat.and_mod_two_pow
  have q1 : n / 2 ^ 1 &&& 4294967294 / 2 ^ 1 = n / 2 ^ 1 % 2 ^ 31 := n_mask (n / 2 ^ 1) 31
  have q2 : n % 2 ^ 1 &&& 4294967294 % 2 ^ 1 = 0 := Nat.and_zero _
  rw [q1] at e1
  rw [q2] at e2
  omega
theorem n_124 (n : Nat) : n &&& 124 = 4 * (n / 4 % 32) := by
  have e1 : (n &&& 124) / 2 ^ 2 = (n / 2 ^ 2) &&& (124 / 2 ^ 2) := Nat.and_div_two_pow
  have e2 : (n &&& 124) % 2 ^ 2 = (n % 2 ^ 2) &&& (124 % 2 ^ 2) := Nat.and_mod_two_pow
  have q1 : n / 2 ^ 2 &&& 124 / 2 ^ 2 = n / 2 ^ 2 % 2 ^ 5 := n_mask (n / 2 ^ 2) 5
  have q2 : n % 2 ^ 2 &&& 124 % 2 ^ 2 = 0 := Nat.and_zero _
  rw [q1] at e1
  rw [q2] at e2
  omega
theorem n_o16 (n : Nat) : n ||| 16 = 32 * (n / 32) + n % 16 + 16 := by
  have e1 : (n ||| 16) / 2 ^ 5 = (n / 2 ^ 5) ||| (16 / 2 ^ 5) := Nat.or_div_two_pow
  have e2 : (n ||| 16) % 2 ^ 5 = (n % 2 ^ 5) ||| (16 % 2 ^ 5) := Nat.or_mod_two_pow
  have q1 : n / 2 ^ 5 ||| 16 / 2 ^ 5 = n / 2 ^ 5 := Nat.or_zero _
  have q : ∀ x, x < 32 → x ||| 16 = x % 16 + 16 := by decide
  have q2 : n % 2 ^ 5 ||| 16 % 2 ^ 5 = n % 2 ^ 5 % 16 + 16 := q (n % 2 ^ 5) (by omega)
  rw [q1] at e1
  rw [q2] at e2
  omega
theorem n_o2 (n : Nat) : n ||| 2 = 4 * (n / 4) + n % 2 + 2 := by
  have e1 : (n ||| 2) / 2 ^ 2 = (n / 2 ^ 2) ||| (2 / 2 ^ 2) := Nat.or_div_two_pow
  have e2 : (n ||| 2) % 2 ^ 2 = (n % 2 ^ 2) ||| (2 % 2 ^ 2) := Nat.or_mod_two_pow
  have q1 : n / 2 ^ 2 ||| 2 / 2 ^ 2 = n / 2 ^ 2 := Nat.or_zero _
  have q : ∀ x, x < 4 → x ||| 2 = x % 2 + 2 := by decide
  have q2 : n % 2 ^ 2 ||| 2 % 2 ^ 2 = n % 2 ^ 2 % 2 + 2 := q (n % 2 ^ 2) (by omega)
  rw [q1] at e1
  rw [q2] at e2
  omega
theorem n_o32 (n : Nat) : n ||| 32 = 64 * (n / 64) + n % 32 + 32 := by
  have e1 : (n ||| 32) / 2 ^ 6 = (n / 2 ^ 6) ||| (32 / 2 ^ 6) := Nat.or_div_two_pow
  have e2 : (n ||| 32) % 2 ^ 6 = (n % 2 ^ 6) ||| (32 % 2 ^ 6) := Nat.or_mod_two_pow
  have q1 : n / 2 ^ 6 ||| 32 / 2 ^ 6 = n / 2 ^ 6 := Nat.or_zero _
  have q : ∀ x, x < 64 → x ||| 32 = x % 32 + 32 := by decide
  have q2 : n % 2 ^ 6 ||| 32 % 2 ^ 6 = n % 2 ^ 6 % 32 + 32 := q (n % 2 ^ 6) (by omega)
  rw [q1] at e1
  rw [q2] at e2
  omega
theorem n_letter {f t k l c : Nat} (hf : f < 8) (ht : t < 8) (hk : k < 8) (hl : l < 8) : (((f ||| t * 2 ^ 3) ||| k * 2 ^ 6) ||| l * 2 ^ 9) ||| c * 2 ^ 12 = f + 8 * t + 64 * k + 512 * l + 4096 * c := by
  rw [n_or (a := f) 3 (by omega) (by omega), n_or (a := f + t * 2 ^ 3) 6 (by omega) (by omega), n_or (a := f + t * 2 ^ 3 + k * 2 ^ 6) 9 (by omega) (by omega), n_or (a := f + t * 2 ^ 3 + k * 2 ^ 6 + l * 2 ^ 9) 12 (by omega) (by omega)]
  omega
theorem n_note {t w c l : Nat} (hw : w < 8) (hc : c < 8) (hl : l < 8) : ((t * 2 ^ 9 ||| w * 2 ^ 6) ||| c * 2 ^ 3) ||| l = 512 * t + 64 * w + 8 * c + l := by
  rw [Nat.or_comm (t * 2 ^ 9), n_or (a := w * 2 ^ 6) 9 (by omega) (by omega), Nat.or_comm _ (c * 2 ^ 3), n_or (a := c * 2 ^ 3) 6 (by omega) (by omega), Nat.or_comm _ l, n_or (a := l) 3 (by omega) (by omega)]
  omega
theorem n_with {a b d : Nat} (ha : a < 16) (hb : b < 2) : ((a ||| 16 * b) ||| 32) ||| d * 2 ^ 6 = a + 16 * b + 32 + 64 * d := by
  rw [n_or (a := a) 4 (by omega) (by omega), n_or (a := a + 16 * b) 5 (by omega) (by omega), n_or (a := a + 16 * b + 32) 6 (by omega) (by omega)]
  omega
theorem n_miss {l w v : Nat} (hw : w < 4) (hl : l < 8) : (w ||| l * 2 ^ 2) ||| v * 2 ^ 6 = w + 4 * l + 64 * v := by
  rw [n_or (a := w) 2 (by omega) (by omega), n_or (a := w + l * 2 ^ 2) 6 (by omega) (by omega)]
  omega
theorem n_active {w l s : Nat} (hw : w < 4) (hl : l < 8) : ((1 ||| w * 2 ^ 2) ||| l * 2 ^ 4) ||| s * 2 ^ 7 = 1 + 4 * w + 16 * l + 128 * s := by
  rw [n_or (a := 1) 2 (by omega) (by omega), n_or (a := 1 + w * 2 ^ 2) 4 (by omega) (by omega), n_or (a := 1 + w * 2 ^ 2 + l * 2 ^ 4) 7 (by omega) (by omega)]
  omega
def hvv (c o v d : Nat) : Nat := c + 16 * o + 32 * v + 64 * d
def evv (a m w l s : Nat) : Nat := a + 2 * m + 4 * w + 16 * l + 128 * s
def mvv (w l g v : Nat) : Nat := w + 4 * l + 32 * g + 64 * v
def lvv (f t k l c : Nat) : Nat := f + 8 * t + 64 * k + 512 * l + 4096 * c
theorem h_count {c o v d : Nat} {M : j_M} (hc : c < 16) : xX3_count (nI (hvv c o v d)) M = some (nI c, M) := by
  unfold xX3_count hvv
  rw [e_and, n_m15, show (c + 16 * o + 32 * v + 64 * d) % 16 = c by omega]
theorem h_own {c o v d : Nat} {M : j_M} (hc : c < 16) (ho : o < 2) : xX3_isOwner (nI (hvv c o v d)) M = some (nI o, M) := by
  unfold xX3_isOwner hvv
  rw [e_and, n_b16, show (c + 16 * o + 32 * v + 64 * d) / 16 % 2 = o by omega, f_eq0 (by omega)]
  by_cases h : o = 0
  · rw [if_pos (by omega), h]
  · rw [if_neg (by omega), show o = 1 by omega]
theorem h_val {c o v d : Nat} {M : j_M} (hc : c < 16) (ho : o < 2) (hv : v < 2) : xX3_isValid (nI (hvv c o v d)) M = some (nI v, M) := by
  unfold xX3_isValid hvv
  rw [e_and, n_b32, show (c + 16 * o + 32 * v + 64 * d) / 32 % 2 = v by omega, f_eq0 (by omega)]
  by_cases h : v = 0
  · rw [if_pos (by omega), h]
  · rw [if_neg (by omega), show v = 1 by omega]
theorem h_data {c o v d : Nat} {M : j_M} (hc : c < 16) (ho : o < 2) (hv : v < 2) (hd : d < 10000) : xX3_data (nI (hvv c o v d)) M = some (nI d, M) := by
  unfold xX3_data hvv
  rw [e_us (by omega) (by omega), show (c + 16 * o + 32 * v + 64 * d) / 2 ^ 6 = d by omega]
theorem h_with {c o v d e : Nat} {M : j_M} (hc : c < 16) (ho : o < 2) (he : e < 10000) : xX3_withData (nI (hvv c o v d)) (nI e) M = some (nI (hvv c o 1 e), M) := by
  unfold xX3_withData hvv
  rw [e_and, n_m15, e_and, n_b16, show (c + 16 * o + 32 * v + 64 * d) / 16 % 2 = o by omega, show (c + 16 * o + 32 * v + 64 * d) % 16 = c by omega, e_shl (by omega) (by omega), e_or, e_or, e_or, n_with hc ho]
theorem v_act {a m w l s x : Nat} {M : j_M} (ha : a < 2) (hm : m < 2) (hw : w < 4) (hl : l < 8) (hs : s ≤ 10100) (hx : x < 8) : xX2_isActiveFor (nI (evv a m w l s)) (nI x) M = some (if a = 1 ∧ l = x then nI 1 else nI 0, M) := by
  unfold xX2_isActiveFor evv
  rw [e_and, n_b1, show (a + 2 * m + 4 * w + 16 * l + 128 * s) % 2 = a by omega, e_us (by omega) (by omega), e_and, n_m7, show (a + 2 * m + 4 * w + 16 * l + 128 * s) / 2 ^ 4 % 8 = l by omega, f_eq0 (by omega), f_eq (by omega) (by omega)]
  (repeat' split) <;> first | rfl | (exfalso; omega)
theorem v_isact {a m w l s : Nat} {M : j_M} (ha : a < 2) : xX2_isActive (nI (evv a m w l s)) M = some (nI a, M) := by
  unfold xX2_isActive evv
  rw [e_and, n_b1, show (a + 2 * m + 4 * w + 16 * l + 128 * s) % 2 = a by omega, f_eq0 (by omega)]
  by_cases h : a = 0
  · rw [if_pos h, h]
  · rw [if_neg h, show a = 1 by omega]
theorem v_mark {a m w l s : Nat} {M : j_M} (ha : a < 2) (hm : m < 2) : xX2_isMarked (nI (evv a m w l s)) M = some (nI m, M) := by
  unfold xX2_isMarked evv
  rw [e_and, n_b2, show (a + 2 * m + 4 * w + 16 * l + 128 * s) / 2 % 2 = m by omega, f_eq0 (by omega)]
  by_cases h : m = 0
  · rw [if_pos (by omega), h]
  · rw [if_neg (by omega), show m = 1 by omega]
theorem v_what {a m w l s : Nat} {M : j_M} (ha : a < 2) (hm : m < 2) (hw : w < 4) (hl : l < 8) (hs : s ≤ 10100) : xX2_what (nI (evv a m w l s)) M = some (nI w, M) := by
  unfold xX2_what evv
  rw [e_us (by omega) (by omega), e_and, n_m3, show (a + 2 * m + 4 * w + 16 * l + 128 * s) / 2 ^ 2 % 4 = w by omega]
theorem v_line {a m w l s : Nat} {M : j_M} (ha : a < 2) (hm : m < 2) (hw : w < 4) (hl : l < 8) (hs : s ≤ 10100) : xX2_line (nI (evv a m w l s)) M = some (nI l, M) := by
  unfold xX2_line evv
  rw [e_us (by omega) (by omega), e_and, n_m7, show (a + 2 * m + 4 * w + 16 * l + 128 * s) / 2 ^ 4 % 8 = l by omega]
theorem v_seq {a m w l s : Nat} {M : j_M} (ha : a < 2) (hm : m < 2) (hw : w < 4) (hl : l < 8) (hs : s ≤ 10100) : xX2_seq (nI (evv a m w l s)) M = some (nI s, M) := by
  unfold xX2_seq evv
  rw [e_us (by omega) (by omega), show (a + 2 * m + 4 * w + 16 * l + 128 * s) / 2 ^ 7 = s by omega]
theorem v_active {w l s : Nat} {M : j_M} (hw : w < 4) (hl : l < 8) (hs : s ≤ 10101) : xX2_active (nI s) (nI l) (nI w) M = some (nI (evv 1 0 w l s), M) := by
  unfold xX2_active evv
  rw [e_shl (by omega) (by omega), e_shl (by omega) (by omega), e_shl (by omega) (by omega), e_or, e_or, e_or, n_active hw hl]
theorem v_recall {a m w l s s' : Nat} {M : j_M} (ha : a < 2) (hm : m < 2) (hw : w < 4) (hl : l < 8) (hs : s ≤ 10100) (hs' : s' ≤ 10100) : xX2_recalled (nI (evv a m w l s)) (nI s') M = some (nI (evv 0 0 w l s'), M) := by
  unfold xX2_recalled evv
  rw [e_and, n_124, show (a + 2 * m + 4 * w + 16 * l + 128 * s) / 4 % 32 = w + 4 * l by omega, e_shl (by omega) (by omega), e_or, n_or 7 (by omega) (by omega), show 4 * (w + 4 * l) + s' * 2 ^ 7 = 0 + 2 * 0 + 4 * w + 16 * l + 128 * s' by omega]
theorem e_m17 {n : Nat} (h : n < 4294967296) : nI n &&& (-17 : Int32) = nI (n % 16 + 32 * (n / 32)) := by
  have e : (-17 : Int32) = nI 4294967279 := by decide
  rw [e, e_and, n_m17 h]
theorem e_mm2 {n : Nat} (h : n < 4294967296) : nI n &&& (-2 : Int32) = nI (2 * (n / 2)) := by
  have e : (-2 : Int32) = nI 4294967294 := by decide
  rw [e, e_and, n_mm2 h]
theorem s_line {w l g v : Nat} {M : j_M} (hw : w < 4) (hl : l < 8) (hg : g < 2) (hv : v < 10000) : xX7_line (nI (mvv w l g v)) M = some (nI l, M) := by
  unfold xX7_line mvv
  rw [e_us (by omega) (by omega), e_and, n_m7, show (w + 4 * l + 32 * g + 64 * v) / 2 ^ 2 % 8 = l by omega]
theorem s_what {w l g v : Nat} {M : j_M} (hw : w < 4) : xX7_what (nI (mvv w l g v)) M = some (nI w, M) := by
  unfold xX7_what mvv
  rw [e_and, n_m3, show (w + 4 * l + 32 * g + 64 * v) % 4 = w by omega]
theorem s_val {w l g v : Nat} {M : j_M} (hw : w < 4) (hl : l < 8) (hg : g < 2) (hv : v < 10000) : xX7_value (nI (mvv w l g v)) M = some (nI v, M) := by
  unfold xX7_value mvv
  rw [e_us (by omega) (by omega), show (w + 4 * l + 32 * g + 64 * v) / 2 ^ 6 = v by omega]
theorem s_good {w l g v : Nat} {M : j_M} (hw : w < 4) (hl : l < 8) (hg : g < 2) : xX7_isForGood (nI (mvv w l g v)) M = some (nI g, M) := by
  unfold xX7_isForGood mvv
  rw [e_and, n_b32, show (w + 4 * l + 32 * g + 64 * v) / 32 % 2 = g by omega, f_eq0 (by omega)]
  by_cases h : g = 0
  · rw [if_pos (by omega), h]
  · rw [if_neg (by omega), show g = 1 by omega]
theorem s_of {w l v : Nat} {M : j_M} (hw : w < 4) (hl : l < 8) (hv : v < 10000) : xX7_of (nI l) (nI w) (nI v) M = some (nI (mvv w l 0 v), M) := by
  unfold xX7_of mvv
  rw [e_shl (by omega) (by omega), e_shl (by omega) (by omega), e_or, e_or, n_miss hw hl, show w + 4 * l + 32 * 0 + 64 * v = w + 4 * l + 64 * v by omega]
theorem l_from {f t k l c : Nat} {M : j_M} (hf : f < 8) : xX4_from (nI (lvv f t k l c)) M = some (nI f, M) := by
  unfold xX4_from lvv
  rw [e_and, n_m7, show (f + 8 * t + 64 * k + 512 * l + 4096 * c) % 8 = f by omega]
theorem l_to {f t k l c : Nat} {M : j_M} (hf : f < 8) (ht : t < 8) (hk : k < 8) (hl : l < 8) (hc : c < 524288) : xX4_to (nI (lvv f t k l c)) M = some (nI t, M) := by
  unfold xX4_to lvv
  rw [e_us (by omega) (by omega), e_and, n_m7, show (f + 8 * t + 64 * k + 512 * l + 4096 * c) / 2 ^ 3 % 8 = t by omega]
theorem l_kind {f t k l c : Nat} {M : j_M} (hf : f < 8) (ht : t < 8) (hk : k < 8) (hl : l < 8) (hc : c < 524288) : xX4_kind (nI (lvv f t k l c)) M = some (nI k, M) := by
  unfold xX4_kind lvv
  rw [e_us (by omega) (by omega), e_and, n_m7, show (f + 8 * t + 64 * k + 512 * l + 4096 * c) / 2 ^ 6 % 8 = k by omega]
theorem l_line {f t k l c : Nat} {M : j_M} (hf : f < 8) (ht : t < 8) (hk : k < 8) (hl : l < 8) (hc : c < 524288) : xX4_line (nI (lvv f t k l c)) M = some (nI l, M) := by
  unfold xX4_line lvv
  rw [e_us (by omega) (by omega), e_and, n_m7, show (f + 8 * t + 64 * k + 512 * l + 4096 * c) / 2 ^ 9 % 8 = l by omega]
theorem l_cargo {f t k l c : Nat} {M : j_M} (hf : f < 8) (ht : t < 8) (hk : k < 8) (hl : l < 8) (hc : c < 524288) : xX4_cargo (nI (lvv f t k l c)) M = some (nI c, M) := by
  unfold xX4_cargo lvv
  rw [e_us (by omega) (by omega), show (f + 8 * t + 64 * k + 512 * l + 4096 * c) / 2 ^ 12 = c by omega]
