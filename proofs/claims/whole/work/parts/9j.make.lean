/-! ===== the reference says it ===== -/
def fld (m j : Nat) : Nat := if j = 0 then m % 16 - 1 else if j = 1 then m / 16 % 128 else m / 2048
def CON (M : j_M) (c : Nat) (L : List Nat) : Prop := ∀ i j, i < L.length → j < 3 → M 208 (3 * (c + i) + j) = nI (fld (L.getD i 0) j)
theorem CON_t {M M' : j_M} {c c' : Nat} {A B : List Nat} (h : CON M c A) (hc : c' = c + A.length) (h2 : CON M' c' B) (hf : ∀ j, j < 3 * c' → M' 208 j = M 208 j) : CON M' c (A ++ B) := by
  intro i j hi hj
  subst hc
  by_cases q : i < A.length
  · rw [gd_l q, hf _ (by omega), h i j q hj]
  · rw [List.length_append] at hi
    rw [gd_r (by omega), ← h2 (i - A.length) j (by omega) hj, show c + A.length + (i - A.length) = c + i by omega]
/-- what saying leaves alone -/
def MKF (M M' : j_M) (d c : Nat) : Prop := (∀ x, x ≠ 200 → x ≠ 208 → x ≠ 209 → x ≠ 210 → M' x = M x) ∧ (∀ j, j ≠ 17 → j ≠ 18 → M' 200 j = M 200 j) ∧ (∀ j, j < d → M' 209 j = M 209 j ∧ M' 210 j = M 210 j) ∧ (∀ j, j < 3 * c → M' 208 j = M 208 j)
theorem MKF_r {M : j_M} {d c : Nat} : MKF M M d c := ⟨fun _ _ _ _ _ => rfl, fun _ _ _ => rfl, fun _ _ => ⟨rfl, rfl⟩, fun _ _ => rfl⟩
theorem MKF_t {M M' M'' : j_M} {d d1 d2 c c1 c2 : Nat} (h : MKF M M' d1 c1) (h2 : MKF M' M'' d2 c2) (q1 : d ≤ d1) (q2 : d ≤ d2) (q3 : c ≤ c1) (q4 : c ≤ c2) : MKF M M'' d c :=
  ⟨fun x a b e f => by rw [h2.1 x a b e f, h.1 x a b e f], fun j a b => by rw [h2.2.1 j a b, h.2.1 j a b], fun j a => by rw [(h2.2.2.1 j (by omega)).1, (h2.2.2.1 j (by omega)).2, (h.2.2.1 j (by omega)).1, (h.2.2.1 j (by omega)).2]; exact ⟨rfl, rfl⟩, fun j a => by rw [h2.2.2.2 j (by omega), h.2.2.2 j (by omega)]⟩
/-- too much -/
def MKX (M M' : j_M) : Prop := M' 200 20 = nI 4 ∧ M' 200 21 = M 200 11 ∧ (∀ x, x ≠ 200 → x ≠ 208 → x ≠ 209 → x ≠ 210 → M' x = M x) ∧ (∀ j, j ≠ 17 → j ≠ 18 → j ≠ 20 → j ≠ 21 → M' 200 j = M 200 j)
theorem MKX_t {M M' M'' : j_M} {d c : Nat} (h : MKF M M' d c) (h2 : MKX M' M'') : MKX M M'' :=
  ⟨h2.1, by rw [h2.2.1, h.2.1 11 (by omega) (by omega)], fun x a b e f => by rw [h2.2.2.1 x a b e f, h.1 x a b e f], fun j a b e f => by rw [h2.2.2.2 j a b e f, h.2.1 j a b]⟩
/-- l1 isn't the end of the loop in hand -/
def TOPC (M : j_M) (d b : Nat) : Prop := d = 0 ∨ ∃ d' o E, d = d' + 1 ∧ d' < 3 ∧ M 209 d' = nI o ∧ o < 400 ∧ M 206 (4 * o + 3) = nI E ∧ b ≤ E ∧ E ≤ 400
theorem mk_go {M : j_M} {n s d l : Nat} (hs : M 200 16 = nI s) (hs2 : s ≤ 400) (hd : M 200 17 = nI d) (hd2 : d ≤ 3) (hl : l ≤ 400) (hg : l < s ∨ 0 < d) : xX12_makes_12 (n + 1) (nI l) M = xX12_makes_27 (xX12_makes_12 n) (nI l) M := by
  rw [xX12_makes_12.eq_2, hs, e_oli2, hd, e_oli2]
  simp (disch := omega) only [e_lt, e_le0]
  by_cases c : l < s
  · rw [if_pos c]
  · rw [if_neg c, if_neg (by omega)]
theorem mk_27 {M : j_M} {k : Int32 → j_M → Option (Int32 × j_M)} {d b l : Nat} (hd : M 200 17 = nI d) (hd2 : d ≤ 3) (ht : TOPC M d b) (hl : l < b) : xX12_makes_27 k (nI l) M = xX12_makes_117 k (nI l) M := by
  unfold xX12_makes_27
  rw [hd, e_oli2]
  rcases ht with rfl | ⟨d', o, E, rfl, h1, h2, h3, h4, h5, h6⟩
  · rw [if_pos (by decide)]
  · rw [if_neg (by rw [e_le0 (by omega)]; omega), e_oli2, e_sub (by omega), show d' + 1 - 1 = d' by omega, e_gd (by omega) (by omega), e_ix2 (by omega), h2, e_oli2, e_mul, e_add, e_gd (by omega) (by omega), e_ix2 (by omega), h4, e_oli2, if_neg (by rw [e_eq (by omega) (by omega)]; omega)]
theorem mk_198 {M : j_M} {k : Int32 → j_M → Option (Int32 × j_M)} {c l : Nat} (hc : M 200 18 = nI c) (hc2 : c < 200) (hl : l < 400) : xX12_makes_198 k fu (nI l) (nI 0) M = k (nI (l + 1)) (mw (mw (mw (mw M 208 (3 * c) (M 206 (4 * l))) 208 (3 * c + 1) (M 206 (4 * l + 1))) 208 (3 * c + 2) (M 206 (4 * l + 2))) 200 18 (nI (c + 1))) := by
  have s1 : ∀ (n i : Nat) (M1 : j_M), i < 3 → M1 200 18 = nI c → xX12_makes_198 k (n + 1) (nI l) (nI i) M1 = xX12_makes_198 k n (nI l) (nI (i + 1)) (mw M1 208 (3 * c + i) (M1 206 (4 * l + i))) := by
    intro n i M1 hi h1
    rw [xX12_makes_198.eq_2, if_neg (by rw [e_le (by omega) (by omega)]; omega), h1, e_oli2, e_mul, e_add, e_gd (by omega) (by omega), e_ix2 (by omega), e_oli2, e_mul, e_add, e_gd (by omega) (by omega), e_ix2 (by omega), e_oml2, e_add]
  rw [show fu = 999996 + 1 + 1 + 1 + 1 by unfold fu; omega, s1 _ 0 M (by omega) hc, s1 _ 1 _ (by omega) (by rw [mw_oth (by omega)]; exact hc), s1 _ 2 _ (by omega) (by rw [mw_oth (by omega), mw_oth (by omega)]; exact hc), xX12_makes_198.eq_2, if_pos (by decide), mw_oth (by omega), mw_oth (by omega), mw_oth (by omega), hc, e_oli2, e_oml2, e_add, e_add]
  simp (disch := omega) only [mw_oth, Nat.add_zero]
theorem mk_act {M : j_M} {n s d c l b v x y : Nat} (hs : M 200 16 = nI s) (hs2 : s ≤ 400) (hd : M 200 17 = nI d) (hd2 : d ≤ 3) (hc : M 200 18 = nI c) (hc2 : c ≤ 200) (hl : l < s) (hb : l < b) (ht : TOPC M d b) (ha : ACT (M 206) l v x y) : (c < 200 → ∃ M', (∀ n, xX12_makes_12 (n + 1) (nI l) M = xX12_makes_12 n (nI (l + 1)) M') ∧ M' 200 18 = nI (c + 1) ∧ M' 200 17 = nI d ∧ MKF M M' d c ∧ CON M' c [v + 16 * x + 2048 * y]) ∧ (c = 200 → ∃ M', (∀ n, xX12_makes_12 (n + 1) (nI l) M = some (nI 0, M')) ∧ MKX M M') := by
  obtain ⟨a1, a2, a3, a4, a5, a6, a7, a8⟩ := ha
  have st : ∀ n, xX12_makes_12 (n + 1) (nI l) M = if c = 200 then some (nI 0, mw (mw M 200 20 (nI 4)) 200 21 (M 200 11)) else xX12_makes_198 (xX12_makes_12 n) fu (nI l) (nI 0) M := by
    intro n
    rw [mk_go hs hs2 hd hd2 (by omega) (Or.inl hl), mk_27 hd hd2 ht hb]
    unfold xX12_makes_117
    rw [e_mul, e_gd (by omega) (by omega), e_ix2 (by omega), a1, e_oli2, if_neg (by rw [e_eq (by omega) (by omega)]; omega), hc, e_oli2]
    simp (disch := omega) only [e_eq]
    by_cases q : c = 200
    · rw [if_pos q, if_pos q, e_oml2, mw_ne (by omega), e_oli2, e_oml2]
    · rw [if_neg q, if_neg q]
  constructor
  · intro q
    refine ⟨mw (mw (mw (mw M 208 (3 * c) (M 206 (4 * l))) 208 (3 * c + 1) (M 206 (4 * l + 1))) 208 (3 * c + 2) (M 206 (4 * l + 2))) 200 18 (nI (c + 1)), fun n => ?_, mw_at (by omega), ?_, ⟨fun z h1 h2 h3 h4 => ?_, fun j h1 h2 => ?_, fun j hj => ⟨?_, ?_⟩, fun j hj => ?_⟩, fun i j hi hj => ?_⟩
    · rw [st n, if_neg (by omega), mk_198 hc q (by omega)]
    · rw [mw_ne (by omega), mw_oth (by omega), mw_oth (by omega), mw_oth (by omega), hd]
    · rw [mw_oth h1, mw_oth h2, mw_oth h2, mw_oth h2]
    · rw [mw_ne h2, mw_oth (by omega), mw_oth (by omega), mw_oth (by omega)]
    · rw [mw_oth (by omega), mw_oth (by omega), mw_oth (by omega), mw_oth (by omega)]
    · rw [mw_oth (by omega), mw_oth (by omega), mw_oth (by omega), mw_oth (by omega)]
    · rw [mw_oth (by omega), mw_ne (by omega), mw_ne (by omega), mw_ne (by omega)]
    · have hi0 : i < 1 := hi
      have : i = 0 := by omega
      subst this
      rw [mw_oth (by omega)]
      show _ = nI (fld (v + 16 * x + 2048 * y) j)
      have hj3 : j = 0 ∨ j = 1 ∨ j = 2 := by omega
      rcases hj3 with rfl | rfl | rfl
      · rw [mw_ne (by omega), mw_ne (by omega), show 3 * (c + 0) + 0 = 3 * c by omega, mw_at (by omega), a1]
        show _ = nI ((v + 16 * x + 2048 * y) % 16 - 1)
        rw [show (v + 16 * x + 2048 * y) % 16 - 1 = v - 1 by omega]
      · rw [mw_ne (by omega), show 3 * (c + 0) + 1 = 3 * c + 1 by omega, mw_at (by omega), a2]
        show _ = nI ((v + 16 * x + 2048 * y) / 16 % 128)
        rw [show (v + 16 * x + 2048 * y) / 16 % 128 = x by omega]
      · rw [show 3 * (c + 0) + 2 = 3 * c + 2 by omega, mw_at (by omega), a3]
        show _ = nI ((v + 16 * x + 2048 * y) / 2048)
        rw [show (v + 16 * x + 2048 * y) / 2048 = y by omega]
  · intro q
    refine ⟨_, fun n => by rw [st n, if_pos q], ?_, mw_at (by omega), fun z h1 h2 h3 h4 => ?_, fun j h1 h2 h3 h4 => ?_⟩
    · rw [mw_ne (by omega), mw_at (by omega)]
    · rw [mw_oth h1, mw_oth h1]
    · rw [mw_ne h4, mw_ne h3]
/-- a loop begins -/
theorem mk_open {M : j_M} {s d l b t : Nat} (hs : M 200 16 = nI s) (hs2 : s ≤ 400) (hd : M 200 17 = nI d) (hd2 : d < 3) (hl : l < s) (hb : l < b) (ht : TOPC M d b) (h4 : M 206 (4 * l) = nI 4) (h5 : M 206 (4 * l + 1) = nI t) : ∀ n, xX12_makes_12 (n + 1) (nI l) M = xX12_makes_12 n (nI (l + 1)) (mw (mw (mw M 209 d (nI l)) 210 d (nI t)) 200 17 (nI (d + 1))) := by
  intro n
  rw [mk_go hs hs2 hd (by omega) (by omega) (Or.inl hl), mk_27 hd (by omega) ht hb]
  unfold xX12_makes_117
  rw [e_mul, e_gd (by omega) (by omega), e_ix2 (by omega), h4, e_oli2, if_pos rfl, hd, e_oli2, e_gd (by omega) (by omega), e_ix2 (by omega), e_oml2, mw_oth (by omega), hd, e_oli2, e_add, e_gd (by omega) (by omega), e_ix2 (by omega), mw_oth (by omega), h5, e_oli2, e_gd (by omega) (by omega), e_ix2 (by omega), e_oml2, mw_oth (by omega), mw_oth (by omega), hd, e_oli2, e_oml2, e_add, e_add]
/-- the end of a loop's rows is reached -/
theorem mk_end {M : j_M} {s d b o r : Nat} (hs : M 200 16 = nI s) (hs2 : s ≤ 400) (hd : M 200 17 = nI (d + 1)) (hd2 : d < 3) (h9 : M 209 d = nI o) (ho : o < 400) (hE : M 206 (4 * o + 3) = nI b) (hb : b ≤ 400) (h10 : M 210 d = nI (r + 1)) (hr : r < 10) : ∀ n, xX12_makes_12 (n + 1) (nI b) M = if r = 0 then xX12_makes_12 n (nI b) (mw (mw M 210 d (nI r)) 200 17 (nI d)) else xX12_makes_12 n (nI (o + 1)) (mw M 210 d (nI r)) := by
  intro n
  rw [mk_go hs hs2 hd (by omega) hb (Or.inr (by omega))]
  unfold xX12_makes_27
  rw [hd, e_oli2, if_neg (by rw [e_le0 (by omega)]; omega), e_oli2, e_sub (by omega), show d + 1 - 1 = d by omega, e_gd (by omega) (by omega), e_ix2 (by omega), h9, e_oli2, e_mul, e_add, e_gd (by omega) (by omega), e_ix2 (by omega), hE, e_oli2, if_pos rfl, e_oli2, e_sub (by omega), show d + 1 - 1 = d by omega, e_gd (by omega) (by omega), e_ix2 (by omega), h10, e_oli2, e_gd (by omega) (by omega), e_sub (by omega), show r + 1 - 1 = r by omega, e_oml2, mw_oth (by omega), hd, e_oli2, e_sub (by omega), show d + 1 - 1 = d by omega, e_gd (by omega) (by omega), e_ix2 (by omega), mw_at (by omega), e_oli2]
  simp (disch := omega) only [e_le0]
  by_cases q : r = 0
  · rw [if_pos (by omega), if_pos q, e_oli2, e_oml2, e_sub (by omega), show d + 1 - 1 = d by omega]
  · rw [if_neg (by omega), if_neg q, e_oli2, e_sub (by omega), show d + 1 - 1 = d by omega, e_gd (by omega) (by omega), e_ix2 (by omega), mw_oth (by omega), h9, e_oli2, e_add]
