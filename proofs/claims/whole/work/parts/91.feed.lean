/-! ===== the tape ===== -/
def BYT (x y : Int32) : Prop := ∃ c, c < 256 ∧ x = nI c ∧ (c < 128 → y = nI c) ∧ (128 ≤ c → y < 0)
theorem nI_ti (n : Nat) : (nI n).toInt = (n : Int).bmod 4294967296 := by
  show (BitVec.ofNat 32 n).toInt = _
  first | exact BitVec.toInt_ofNat' .. | exact BitVec.toInt_ofNat .. | simp [BitVec.toInt_ofNat']
theorem byt (v : Int32) : BYT (v &&& nI 255) (v.toInt8.toInt32).toInt8.toInt32 := by
  obtain ⟨n, rfl⟩ := nI_any v
  have e1 : (((nI n).toInt8.toInt32).toInt8.toInt32).toInt = (n : Int).bmod 256 := by
    rw [Int8.toInt8_toInt32, Int8.toInt_toInt32, Int32.toInt_toInt8, nI_ti]
    exact Int.bmod_bmod_of_dvd (by decide)
  refine ⟨n % 256, by omega, ?_, fun h => ?_, fun h => ?_⟩
  · rw [e_and, show (255 : Nat) = 2 ^ 8 - 1 by rfl, Nat.and_two_pow_sub_one_eq_mod]
  · apply Int32.toInt_inj.1
    rw [e1, nI_toInt (by omega)]
    rw [Int.bmod_def]
    split <;> omega
  · rw [Int32.lt_iff_toInt_lt, e1, show (0 : Int32).toInt = 0 by decide]
    rw [Int.bmod_def]
    split <;> omega
def PUTS (I J A : Nat) (M M' : j_M) (p m : Nat) (g : Int32 → Int32) (w : Nat → Int32) : Prop :=
  M' I J = nI (p + m) ∧ (∀ j, j ≠ J → M' I j = M I j) ∧ (∀ x, x ≠ I → x ≠ A → M' x = M x) ∧ (∀ i, i < p → M' A i = M A i) ∧ (∀ i, i < m → M' A (p + i) = g (w i))
theorem PUTS_1 {I J A : Nat} {M : j_M} {p : Nat} {g : Int32 → Int32} {v : Int32} (hI : I ≠ 0) (hA : A ≠ 0) (hIA : I ≠ A) : PUTS I J A M (mw (mw M A p (g v)) I J (nI (p + 1))) p 1 g (fun _ => v) := by
  refine ⟨mw_at hI, fun j hj => ?_, fun x h1 h2 => ?_, fun i hi => ?_, fun i hi => ?_⟩
  · rw [mw_ne hj, mw_oth hIA]
  · rw [mw_oth h1, mw_oth h2]
  · rw [mw_oth (Ne.symm hIA), mw_ne (by omega)]
  · rw [mw_oth (Ne.symm hIA), show p + i = p by omega, mw_at hA]
theorem PUTS_t {I J A : Nat} {M M' M'' : j_M} {p m m' : Nat} {g : Int32 → Int32} {w w' : Nat → Int32} (h : PUTS I J A M M' p m g w) (h' : PUTS I J A M' M'' (p + m) m' g w') : PUTS I J A M M'' p (m + m') g (fun i => if i < m then w i else w' (i - m)) := by
  obtain ⟨a1, a2, a3, a4, a5⟩ := h
  obtain ⟨b1, b2, b3, b4, b5⟩ := h'
  refine ⟨?_, fun j hj => ?_, fun x h1 h2 => ?_, fun i hi => ?_, fun i hi => ?_⟩
  · rw [b1, Nat.add_assoc]
  · rw [b2 j hj, a2 j hj]
  · rw [b3 x h1 h2, a3 x h1 h2]
  · rw [b4 i (by omega), a4 i hi]
  · by_cases c : i < m
    · simp only [if_pos c]
      rw [b4 (p + i) (by omega), a5 i c]
    · simp only [if_neg c]
      rw [show p + i = p + m + (i - m) by omega, b5 (i - m) (by omega)]
def wd (a : Int32) : Nat → Int32 := fun i => if i < 1 + 1 + 1 then (if i < 1 + 1 then (if i < 1 then us a (nI 24) else us a (nI 16)) else us a (nI 8)) else us a (nI 0)
theorem PUTS_4 {I J A : Nat} {g : Int32 → Int32} {a : Int32} {p : Nat} {M M1 M2 M3 M4 : j_M} (h1 : PUTS I J A M M1 p 1 g (fun _ => us a (nI 24))) (h2 : PUTS I J A M1 M2 (p + 1) 1 g (fun _ => us a (nI 16))) (h3 : PUTS I J A M2 M3 (p + 1 + 1) 1 g (fun _ => us a (nI 8))) (h4 : PUTS I J A M3 M4 (p + 1 + 1 + 1) 1 g (fun _ => us a (nI 0))) : PUTS I J A M M4 p 4 g (wd a) := by
  have h3' : PUTS I J A M2 M3 (p + (1 + 1)) 1 g (fun _ => us a (nI 8)) := h3
  have h4' : PUTS I J A M3 M4 (p + (1 + 1 + 1)) 1 g (fun _ => us a (nI 0)) := h4
  exact PUTS_t (PUTS_t (PUTS_t h1 h2) h3') h4'
theorem m8_24 : nI 24 + (-8 : Int32) = nI 16 := by decide
theorem m8_16 : nI 16 + (-8 : Int32) = nI 8 := by decide
theorem m8_8 : nI 8 + (-8 : Int32) = nI 0 := by decide
theorem m8_0 : nI 0 + (-8 : Int32) < 0 := by decide
theorem x_put1 {n p k : Nat} {a : Int32} {M : j_M} (h : M 28 4 = nI p) (hp : p < 400) (hk : k < 100) : xX8_put_3 (n + 1) a (nI k) M = xX8_put_3 n a (nI k + (-8 : Int32)) (mw (mw M 29 p (us a (nI k) &&& nI 255)) 28 4 (nI (p + 1))) := by
  rw [xX8_put_3.eq_2]
  simp (disch := omega) only [e_gd, e_ix, e_oli2, e_oml2, e_obi2, e_obv2, e_add, e_mul, e_sub, e_eq, e_lt, e_le, e_eq0, e_0eq, e_lt0, e_0lt, e_le0, e_0le, e_m1, e_m1', e_m1lt, Nat.add_assoc, Nat.not_lt_zero, Nat.le_zero_eq, h, if_false, mw_oth]
  rw [if_neg (by omega)]
theorem x_put {p : Nat} {a : Int32} {M : j_M} (h : M 28 4 = nI p) (hp : p + 4 ≤ 400) : ∃ M', xX8_put a M = some M' ∧ PUTS 28 4 29 M M' p 4 (fun v => v &&& nI 255) (wd a) := by
  have q1 := PUTS_1 (I := 28) (J := 4) (A := 29) (M := M) (p := p) (g := fun v => v &&& nI 255) (v := us a (nI 24)) (by omega) (by omega) (by omega)
  have q2 := PUTS_1 (I := 28) (J := 4) (A := 29) (M := mw (mw M 29 p (us a (nI 24) &&& nI 255)) 28 4 (nI (p + 1))) (p := p + 1) (g := fun v => v &&& nI 255) (v := us a (nI 16)) (by omega) (by omega) (by omega)
  have q3 := PUTS_1 (I := 28) (J := 4) (A := 29) (M := mw (mw (mw (mw M 29 p (us a (nI 24) &&& nI 255)) 28 4 (nI (p + 1))) 29 (p + 1) (us a (nI 16) &&& nI 255)) 28 4 (nI (p + 1 + 1))) (p := p + 1 + 1) (g := fun v => v &&& nI 255) (v := us a (nI 8)) (by omega) (by omega) (by omega)
  have q4 := PUTS_1 (I := 28) (J := 4) (A := 29) (M := mw (mw (mw (mw (mw (mw M 29 p (us a (nI 24) &&& nI 255)) 28 4 (nI (p + 1))) 29 (p + 1) (us a (nI 16) &&& nI 255)) 28 4 (nI (p + 1 + 1))) 29 (p + 1 + 1) (us a (nI 8) &&& nI 255)) 28 4 (nI (p + 1 + 1 + 1))) (p := p + 1 + 1 + 1) (g := fun v => v &&& nI 255) (v := us a (nI 0)) (by omega) (by omega) (by omega)
  refine ⟨_, ?_, PUTS_4 q1 q2 q3 q4⟩
  unfold xX8_put
  rw [show fu = 999995 + 1 + 1 + 1 + 1 + 1 by unfold fu; omega, x_put1 h (by omega) (by omega), m8_24, x_put1 (mw_at (by omega)) (by omega) (by omega), m8_16, x_put1 (mw_at (by omega)) (by omega) (by omega), m8_8, x_put1 (mw_at (by omega)) (by omega) (by omega), xX8_put_3.eq_2, if_pos m8_0]
theorem r_tap1 {n p k : Nat} {a : Int32} {M : j_M} (h : M 200 11 = nI p) (hp : p < 400) (hk : k < 100) : xX12_tapes_3 (n + 1) a (nI k) M = xX12_tapes_3 n a (nI k + (-8 : Int32)) (mw (mw M 205 p ((us a (nI k)).toInt8.toInt32).toInt8.toInt32) 200 11 (nI (p + 1))) := by
  rw [xX12_tapes_3.eq_2]
  simp (disch := omega) only [e_gd, e_ix, e_oli2, e_oml2, e_obi2, e_obv2, e_add, e_mul, e_sub, e_eq, e_lt, e_le, e_eq0, e_0eq, e_lt0, e_0lt, e_le0, e_0le, e_m1, e_m1', e_m1lt, Nat.add_assoc, Nat.not_lt_zero, Nat.le_zero_eq, h, if_false, mw_oth]
theorem r_tapes {p : Nat} {a : Int32} {M : j_M} (h : M 200 11 = nI p) (hp : p + 4 ≤ 400) : ∃ M', xX12_tapes a M = some M' ∧ PUTS 200 11 205 M M' p 4 (fun v => (v.toInt8.toInt32).toInt8.toInt32) (wd a) := by
  have q1 := PUTS_1 (I := 200) (J := 11) (A := 205) (M := M) (p := p) (g := fun v => (v.toInt8.toInt32).toInt8.toInt32) (v := us a (nI 24)) (by omega) (by omega) (by omega)
  have q2 := PUTS_1 (I := 200) (J := 11) (A := 205) (M := mw (mw M 205 p ((us a (nI 24)).toInt8.toInt32).toInt8.toInt32) 200 11 (nI (p + 1))) (p := p + 1) (g := fun v => (v.toInt8.toInt32).toInt8.toInt32) (v := us a (nI 16)) (by omega) (by omega) (by omega)
  have q3 := PUTS_1 (I := 200) (J := 11) (A := 205) (M := mw (mw (mw (mw M 205 p ((us a (nI 24)).toInt8.toInt32).toInt8.toInt32) 200 11 (nI (p + 1))) 205 (p + 1) ((us a (nI 16)).toInt8.toInt32).toInt8.toInt32) 200 11 (nI (p + 1 + 1))) (p := p + 1 + 1) (g := fun v => (v.toInt8.toInt32).toInt8.toInt32) (v := us a (nI 8)) (by omega) (by omega) (by omega)
  have q4 := PUTS_1 (I := 200) (J := 11) (A := 205) (M := mw (mw (mw (mw (mw (mw M 205 p ((us a (nI 24)).toInt8.toInt32).toInt8.toInt32) 200 11 (nI (p + 1))) 205 (p + 1) ((us a (nI 16)).toInt8.toInt32).toInt8.toInt32) 200 11 (nI (p + 1 + 1))) 205 (p + 1 + 1) ((us a (nI 8)).toInt8.toInt32).toInt8.toInt32) 200 11 (nI (p + 1 + 1 + 1))) (p := p + 1 + 1 + 1) (g := fun v => (v.toInt8.toInt32).toInt8.toInt32) (v := us a (nI 0)) (by omega) (by omega) (by omega)
  refine ⟨_, ?_, PUTS_4 q1 q2 q3 q4⟩
  unfold xX12_tapes
  rw [show fu = 999995 + 1 + 1 + 1 + 1 + 1 by unfold fu; omega, r_tap1 h (by omega) (by omega), m8_24, r_tap1 (mw_at (by omega)) (by omega) (by omega), m8_16, r_tap1 (mw_at (by omega)) (by omega) (by omega), m8_8, r_tap1 (mw_at (by omega)) (by omega) (by omega), xX12_tapes_3.eq_2, if_pos m8_0]
/-! ===== feed, end, fault ===== -/
def RDR (M : j_M) : Prop := ∃ n, n ≤ 400 ∧ M 28 4 = nI n ∧ M 200 11 = nI n ∧ ∀ i, i < n → BYT (M 29 i) (M 205 i)
def FLT (M : j_M) : Prop := M 28 5 = M 200 19 ∧ M 28 6 = M 200 22
def TFR (M M' : j_M) : Prop := (∀ x, x ≠ 28 → x ≠ 29 → x ≠ 200 → x ≠ 205 → M' x = M x) ∧ (∀ j, j ≠ 4 → M' 28 j = M 28 j) ∧ (∀ j, j ≠ 11 → M' 200 j = M 200 j)
theorem TFR_r {M : j_M} : TFR M M := ⟨fun _ _ _ _ _ => rfl, fun _ _ => rfl, fun _ _ => rfl⟩
def w5 (a b c d e : Int32) : Nat → Int32 := fun i => if i < 4 + 4 + 4 + 4 then (if i < 4 + 4 + 4 then (if i < 4 + 4 then (if i < 4 then wd a i else wd b (i - 4)) else wd c (i - (4 + 4))) else wd d (i - (4 + 4 + 4))) else wd e (i - (4 + 4 + 4 + 4))
theorem PUTS_5 {I J A : Nat} {g : Int32 → Int32} {a b c d e : Int32} {p : Nat} {M M1 M2 M3 M4 M5 : j_M} (h1 : PUTS I J A M M1 p 4 g (wd a)) (h2 : PUTS I J A M1 M2 (p + 4) 4 g (wd b)) (h3 : PUTS I J A M2 M3 (p + 4 + 4) 4 g (wd c)) (h4 : PUTS I J A M3 M4 (p + 4 + 4 + 4) 4 g (wd d)) (h5 : PUTS I J A M4 M5 (p + 4 + 4 + 4 + 4) 4 g (wd e)) : PUTS I J A M M5 p 20 g (w5 a b c d e) := by
  have h3' : PUTS I J A M2 M3 (p + (4 + 4)) 4 g (wd c) := h3
  have h4' : PUTS I J A M3 M4 (p + (4 + 4 + 4)) 4 g (wd d) := h4
  have h5' : PUTS I J A M4 M5 (p + (4 + 4 + 4 + 4)) 4 g (wd e) := h5
  exact PUTS_t (PUTS_t (PUTS_t (PUTS_t h1 h2) h3') h4') h5'
theorem op_feed {M : j_M} (a b c d e : Int32) (h : RDR M) : ∃ v M1 M2, xX11_feed a b c d e M = some (v, M1) ∧ xX12_feed a b c d e M1 = some (v, M2) ∧ RDR M2 ∧ TFR M M1 ∧ TFR M M2 := by
  obtain ⟨n, hn, h1, h2, h3⟩ := h
  by_cases c0 : n ≤ 380
  · obtain ⟨A1, x1, p1⟩ := x_put (a := a) h1 (by omega)
    obtain ⟨A2, x2, p2⟩ := x_put (a := b) p1.1 (by omega)
    obtain ⟨A3, x3, p3⟩ := x_put (a := c) p2.1 (by omega)
    obtain ⟨A4, x4, p4⟩ := x_put (a := d) p3.1 (by omega)
    obtain ⟨A5, x5, p5⟩ := x_put (a := e) p4.1 (by omega)
    have P := PUTS_5 p1 p2 p3 p4 p5
    obtain ⟨P1, P2, P3, P4, P5⟩ := P
    have g0 : A5 200 11 = nI n := by rw [P3 200 (by omega) (by omega), h2]
    obtain ⟨B1, y1, q1⟩ := r_tapes (a := a) g0 (by omega)
    obtain ⟨B2, y2, q2⟩ := r_tapes (a := b) q1.1 (by omega)
    obtain ⟨B3, y3, q3⟩ := r_tapes (a := c) q2.1 (by omega)
    obtain ⟨B4, y4, q4⟩ := r_tapes (a := d) q3.1 (by omega)
    obtain ⟨B5, y5, q5⟩ := r_tapes (a := e) q4.1 (by omega)
    have Q := PUTS_5 q1 q2 q3 q4 q5
    obtain ⟨Q1, Q2, Q3, Q4, Q5⟩ := Q
    refine ⟨nI (n + 20), A5, B5, ?_, ?_, ⟨n + 20, by omega, by rw [Q3 28 (by omega) (by omega), P1], Q1, fun i hi => ?_⟩, ⟨fun x _ _ _ _ => P3 x (by omega) (by omega), P2, fun j _ => by rw [P3 200 (by omega) (by omega)]⟩, ⟨fun x _ _ _ _ => by rw [Q3 x (by omega) (by omega), P3 x (by omega) (by omega)], fun j hj => by rw [Q3 28 (by omega) (by omega), P2 j hj], fun j hj => by rw [Q2 j hj, P3 200 (by omega) (by omega)]⟩⟩
    · unfold xX11_feed xX8_hasSpace
      rw [h1, e_oli2]
      simp (disch := omega) only [e_lt]
      rw [if_neg (by omega), e_obi2, if_neg (by decide), x1, e_obv2, x2, e_obv2, x3, e_obv2, x4, e_obv2, x5, e_obv2, P1, e_oli2]
    · unfold xX12_feed
      rw [g0, e_oli2, e_add]
      simp (disch := omega) only [e_le]
      rw [if_pos (by omega), y1, e_obv2, y2, e_obv2, y3, e_obv2, y4, e_obv2, y5, e_obv2, Q1, e_oli2]
    · rw [Q3 29 (by omega) (by omega)]
      by_cases ci : i < n
      · rw [P4 i ci, Q4 i ci, P3 205 (by omega) (by omega)]
        exact h3 i ci
      · obtain ⟨k, rfl⟩ : ∃ k, i = n + k := ⟨i - n, by omega⟩
        rw [P5 k (by omega), Q5 k (by omega)]
        exact byt _
  · refine ⟨-1, M, M, ?_, ?_, ⟨n, hn, h1, h2, h3⟩, TFR_r, TFR_r⟩
    · unfold xX11_feed xX8_hasSpace
      rw [h1, e_oli2]
      simp (disch := omega) only [e_lt]
      rw [if_pos (by omega), e_obi2, if_pos (by decide)]
    · unfold xX12_feed
      rw [h2, e_oli2, e_add]
      simp (disch := omega) only [e_le]
      rw [if_neg (by omega)]
theorem op_end {M : j_M} (a : Int32) (h : RDR M) : ∃ v M1 M2, xX11_end a M = some (v, M1) ∧ xX12_end a M1 = some (v, M2) ∧ RDR M2 ∧ TFR M M1 ∧ TFR M M2 := by
  obtain ⟨n, hn, h1, h2, h3⟩ := h
  have hno : (¬ ∃ k, a = nI k ∧ k ≤ n) → ∃ v M1 M2, xX11_end a M = some (v, M1) ∧ xX12_end a M1 = some (v, M2) ∧ RDR M2 ∧ TFR M M1 ∧ TFR M M2 := by
    intro hx
    refine ⟨nI 0, M, M, ?_, ?_, ⟨n, hn, h1, h2, h3⟩, TFR_r, TFR_r⟩
    · unfold xX11_end xX8_cut
      rcases i_cases a with ⟨k, hk, rfl⟩ | ha
      · have hk2 : ¬ k ≤ n := fun c => hx ⟨k, rfl, c⟩
        rw [h1]
        simp (disch := omega) only [e_gd, e_ix, e_oli2, e_oml2, e_obi2, e_obv2, e_add, e_mul, e_sub, e_eq, e_lt, e_le, e_eq0, e_0eq, e_lt0, e_0lt, e_le0, e_0le, e_m1, e_m1', e_m1lt, Nat.add_assoc, Nat.not_lt_zero, Nat.le_zero_eq, if_false]
        rw [if_neg hk2, e_obi2, e_gz0]
      · rw [if_pos ha, e_obi2, e_gz0]
    · unfold xX12_end
      rcases i_cases a with ⟨k, hk, rfl⟩ | ha
      · have hk2 : ¬ k ≤ n := fun c => hx ⟨k, rfl, c⟩
        rw [h2, e_oli2, m_isIn M hk (by omega) (by omega), e_obi2, if_neg (show ¬ (0 ≤ k ∧ k ≤ n) by omega), if_pos (by decide)]
      · rw [h2, e_oli2, q_isInN ha (by omega), e_obi2, if_pos (by decide)]
  by_cases hx : ∃ k, a = nI k ∧ k ≤ n
  · obtain ⟨k, rfl, hk⟩ := hx
    refine ⟨nI 1, mw M 28 4 (nI k), mw (mw M 28 4 (nI k)) 200 11 (nI k), ?_, ?_, ⟨k, by omega, by rw [mw_oth (by omega), mw_at (by omega)], mw_at (by omega), fun i hi => ?_⟩, ⟨fun x _ _ _ _ => mw_oth (by omega), fun j hj => mw_ne hj, fun j hj => by rw [mw_oth (by omega)]⟩, ⟨fun x _ _ _ _ => by rw [mw_oth (by omega), mw_oth (by omega)], fun j hj => by rw [mw_oth (by omega), mw_ne hj], fun j hj => by rw [mw_ne hj, mw_oth (by omega)]⟩⟩
    · unfold xX11_end xX8_cut
      rw [h1]
      simp (disch := omega) only [e_gd, e_ix, e_oli2, e_oml2, e_obi2, e_obv2, e_add, e_mul, e_sub, e_eq, e_lt, e_le, e_eq0, e_0eq, e_lt0, e_0lt, e_le0, e_0le, e_m1, e_m1', e_m1lt, Nat.add_assoc, Nat.not_lt_zero, Nat.le_zero_eq, if_false]
      rw [if_pos hk, e_obi2, e_gz1]
    · unfold xX12_end
      rw [mw_oth (by omega), h2, e_oli2, m_isIn _ (by omega) (by omega) (by omega), e_obi2, if_pos (show 0 ≤ k ∧ k ≤ n by omega), if_neg (by decide), e_oml2]
    · rw [mw_oth (by omega), mw_oth (by omega), mw_oth (by omega), mw_oth (by omega)]
      exact h3 i (by omega)
  · exact hno hx
theorem op_fault {M : j_M} (a : Int32) (h : FLT M) : ∃ v, xX11_fault a M = some (v, M) ∧ xX12_fault a M = some (v, M) := by
  unfold xX11_fault xX12_fault
  rw [← h.1, ← h.2]
  by_cases c0 : a = nI 0
  · subst c0
    refine ⟨M 28 5, ?_, ?_⟩
    · rw [e_osw, if_pos rfl, e_oli2]
    · rw [if_pos (by decide), e_oli2]
  · by_cases c1 : a = nI 1
    · subst c1
      refine ⟨M 28 6, ?_, ?_⟩
      · rw [e_osw, if_neg (by decide), e_osw, if_pos rfl, e_oli2]
      · rw [if_neg (by decide), if_pos rfl, e_oli2]
    · refine ⟨-1, ?_, ?_⟩
      · rw [e_osw, if_neg c0, e_osw, if_neg c1, e_osw0]
      · rw [if_neg (show ¬ a = (0 : Int32) from c0), if_neg c1]
