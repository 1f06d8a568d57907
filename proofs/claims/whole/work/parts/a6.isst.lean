/-! ===== the walker's states ===== -/
/-- state s is kept as K -/
def STR (M : j_M) (u s : Nat) (K : a_S) : Prop := M 104 s = nI (K 1 7) ∧ (∀ j, j < K 1 7 → M 103 (24 * s + j) = nI (lcv (fd K j))) ∧ (∀ j, j < u → M 102 (112 * s + j) = nI (cell K j))
theorem hv_lt {S : a_S} (h : INV S z0) (j : Nat) : cell S j < 4294967296 := by
  unfold cell
  split
  · have g := g_hv h.1 (8 * ((j / 16 + 6) % 7) + j % 16)
    unfold hv hvv
    omega
  · split
    · have g := g_ev h.1 (6 * ((j / 16 + 6) % 7) + (j % 16 - 8))
      unfold ev evv
      omega
    · split
      · omega
      · split
        · have d : ∀ k, ud S (j / 16 - 1) k ≤ 8 := fun k => by
            have := g_l h.1 244 (8 * (j / 16 - 1) + k) (Or.inl rfl)
            unfold ud
            split <;> omega
          have d0 := d 0
          have d1 := d 1
          have d2 := d 2
          have d3 := d 3
          have d4 := d 4
          have d5 := d 5
          have d6 := d 6
          have d7 := d 7
          unfold uo
          rw [sm_8]
          generalize ud S (j / 16 - 1) = f at *
          clear d
          omega
        · have := msv_lt (c := j / 16 - 1) h.1
          omega
theorem nI_i32 {a b : Nat} (ha : a < 4294967296) (hb : b < 4294967296) : nI a = nI b ↔ a = b := by
  constructor
  · intro h
    have e : (BitVec.ofNat 32 a) = (BitVec.ofNat 32 b) := congrArg Int32.toBitVec h
    have e2 := congrArg BitVec.toNat e
    rw [BitVec.toNat_ofNat, BitVec.toNat_ofNat] at e2
    omega
  · intro h
    rw [h]
theorem x_is67 {N : j_M} {S K : a_S} {u s k : Nat} (hu : u ≤ 112) (hs : s < 250) (h15 : N 100 15 = nI u) (hc : ∀ j, j < u → N 102 (112 * s + j) = nI (cell K j)) (hK : INV K z0) (hS : INV S z0) : ∀ (m i : Nat), i + m = u → ∃ z, xX10_isState_67 70 (k + m + 1) (nI (s * 112)) (nI i) (XS N 70 S) = some (nI z, XS N 70 S) ∧ ((z = 1 ∧ ∀ j, i ≤ j → j < u → cell K j = cell S j) ∨ (z = 0 ∧ ∃ j, j < u ∧ cell K j ≠ cell S j))
  | 0, i, h => by
    refine ⟨1, ?_, Or.inl ⟨rfl, fun j h1 h2 => by omega⟩⟩
    rw [show k + 0 + 1 = k + 1 from rfl, xX10_isState_67.eq_2, xs_o (by omega), h15, e_oli2, if_pos (by rw [e_le (by omega) (by omega)]; omega)]
  | m + 1, i, h => by
    have st : xX10_isState_67 70 (k + (m + 1) + 1) (nI (s * 112)) (nI i) (XS N 70 S) = if cell K i = cell S i then xX10_isState_67 70 (k + m + 1) (nI (s * 112)) (nI (i + 1)) (XS N 70 S) else some (nI 0, XS N 70 S) := by
      rw [show k + (m + 1) + 1 = (k + m + 1) + 1 by omega, xX10_isState_67.eq_2, xs_o (by omega), h15, e_oli2, if_neg (by rw [e_le (by omega) (by omega)]; omega), e_add, e_gd (by omega) (by omega), e_ix2 (by omega), xs_o (by omega), show s * 112 + i = 112 * s + i by omega, hc i (by omega), e_oli2, e_gd (by omega) (by omega), e_ix2 (by omega), xs_cel (t := 70) (by omega), e_oli2, e_add]
      by_cases q : cell K i = cell S i
      · rw [if_pos q, if_pos (by rw [q])]
      · rw [if_neg q, if_neg (fun w => q ((nI_i32 (hv_lt hK i) (hv_lt hS i)).1 w))]
    rw [st]
    by_cases q : cell K i = cell S i
    · rw [if_pos q]
      obtain ⟨z, e, hz⟩ := x_is67 (k := k) hu hs h15 hc hK hS m (i + 1) (by omega)
      refine ⟨z, e, ?_⟩
      rcases hz with ⟨z1, hz⟩ | hz
      · refine Or.inl ⟨z1, fun j h1 h2 => ?_⟩
        by_cases w : j = i
        · rw [w, q]
        · exact hz j (by omega) h2
      · exact Or.inr hz
    · rw [if_neg q]
      exact ⟨0, rfl, Or.inr ⟨rfl, i, by omega, q⟩⟩
theorem x_is23 {N : j_M} {S K : a_S} {s k : Nat} {X : Option (Int32 × j_M)} (hs : s < 250) (h24 : S 1 7 ≤ 24) (h7 : K 1 7 = S 1 7) (hr : ∀ j, j < K 1 7 → N 103 (24 * s + j) = nI (lcv (fd K j))) (hK : INV K z0) (hS : INV S z0) (hX : xX10_isState_67 70 fu (nI (s * 112)) (nI 0) (XS N 70 S) = X) : ∀ (m i : Nat), i + m = S 1 7 → (xX10_isState_23 70 (k + m + 1) (nI s) (nI (s * 24)) (nI i) (XS N 70 S) = X ∧ ∀ j, i ≤ j → j < S 1 7 → lcv (fd K j) = lcv (fd S j)) ∨ (xX10_isState_23 70 (k + m + 1) (nI s) (nI (s * 24)) (nI i) (XS N 70 S) = some (nI 0, XS N 70 S) ∧ ∃ j, j < S 1 7 ∧ lcv (fd K j) ≠ lcv (fd S j))
  | 0, i, h => by
    refine Or.inl ⟨?_, fun j h1 h2 => by omega⟩
    rw [show k + 0 + 1 = k + 1 from rfl, xX10_isState_23.eq_2, show XS N 70 S 70 8 = nI (S 1 7) from xr_0_8, e_oli2, if_pos (by rw [e_le (by omega) (by omega)]; omega), e_mul, hX]
  | m + 1, i, h => by
    have b1 := lcv_lt hK.1 hK.2.2.2.1 (i := i) (by omega)
    have b2 := lcv_lt hS.1 hS.2.2.2.1 (i := i) (by omega)
    have st : xX10_isState_23 70 (k + (m + 1) + 1) (nI s) (nI (s * 24)) (nI i) (XS N 70 S) = if lcv (fd K i) = lcv (fd S i) then xX10_isState_23 70 (k + m + 1) (nI s) (nI (s * 24)) (nI (i + 1)) (XS N 70 S) else some (nI 0, XS N 70 S) := by
      rw [show k + (m + 1) + 1 = (k + m + 1) + 1 by omega, xX10_isState_23.eq_2, show XS N 70 S 70 8 = nI (S 1 7) from xr_0_8, e_oli2, if_neg (by rw [e_le (by omega) (by omega)]; omega), e_add, e_gd (by omega) (by omega), e_ix2 (by omega), xs_o (by omega), show s * 24 + i = 24 * s + i by omega, hr i (by omega), e_oli2, e_gd (by omega) (by omega), e_ix2 (by omega), xs_row (t := 70) (by omega), e_oli2, e_add, f_eq b1 b2]
    rw [st]
    by_cases q : lcv (fd K i) = lcv (fd S i)
    · rw [if_pos q]
      rcases x_is23 (k := k) hs h24 h7 hr hK hS hX m (i + 1) (by omega) with ⟨e, hz⟩ | hz
      · refine Or.inl ⟨e, fun j h1 h2 => ?_⟩
        by_cases w : j = i
        · rw [w, q]
        · exact hz j (by omega) h2
      · exact Or.inr hz
    · rw [if_neg q]
      exact Or.inr ⟨rfl, i, by omega, q⟩
theorem x_isState {N : j_M} {S K : a_S} {u s : Nat} (hu : u ≤ 112) (hs : s < 250) (h15 : N 100 15 = nI u) (hk : STR N u s K) (hK : INV K z0) (hS : INV S z0) (h24 : K 1 7 ≤ 24) : ∃ z, xX10_isState 70 (nI s) (XS N 70 S) = some (nI z, XS N 70 S) ∧ ((z = 1 ∧ CEQ K S u) ∨ (z = 0 ∧ ¬ CEQ K S u)) := by
  have b1 := INV_q hK
  have b2 := INV_q hS
  have st : xX10_isState 70 (nI s) (XS N 70 S) = if K 1 7 = S 1 7 then xX10_isState_23 70 fu (nI s) (nI (s * 24)) (nI 0) (XS N 70 S) else some (nI 0, XS N 70 S) := by
    unfold xX10_isState
    rw [e_gd (by omega) (by omega), e_ix2 (by omega), xs_o (by omega), hk.1, e_oli2, show XS N 70 S 70 8 = nI (S 1 7) from xr_0_8, e_oli2, f_eq (by omega) (by omega), e_mul]
  rw [st]
  by_cases c : K 1 7 = S 1 7
  · rw [if_pos c]
    obtain ⟨z, e, hz⟩ := x_is67 (S := S) (k := 999999 - u) hu hs h15 hk.2.2 hK hS u 0 (by omega)
    rw [show 999999 - u + u + 1 = fu by unfold fu; omega] at e
    rcases x_is23 (k := 999999 - S 1 7) hs (by omega) c hk.2.1 hK hS e (S 1 7) 0 (by omega) with ⟨e2, h2⟩ | ⟨e2, h2⟩
    · rw [show 999999 - S 1 7 + S 1 7 + 1 = fu by unfold fu; omega] at e2
      refine ⟨z, e2, ?_⟩
      rcases hz with ⟨z1, hz⟩ | ⟨z1, j, j1, j2⟩
      · exact Or.inl ⟨z1, c, fun j hj => h2 j (by omega) hj, fun j hj => hz j (by omega) hj⟩
      · exact Or.inr ⟨z1, fun q => j2 (q.2.2 j j1)⟩
    · rw [show 999999 - S 1 7 + S 1 7 + 1 = fu by unfold fu; omega] at e2
      obtain ⟨j, j1, j2⟩ := h2
      exact ⟨0, e2, Or.inr ⟨rfl, fun q => j2 (q.2.1 j j1)⟩⟩
  · rw [if_neg c]
    exact ⟨0, rfl, Or.inr ⟨rfl, fun q => c q.1⟩⟩
/-- the walker's table of states -/
def WKR (M : j_M) (S0 : a_S) (n : Nat) (κ : Nat → a_S) (d sl : Nat → Nat) : Prop :=
  n ≤ 250 ∧ M 100 10 = nI n ∧ M 100 15 = nI (16 * (S0 1 0 + 1)) ∧ (∀ s, s < n → STR M (16 * (S0 1 0 + 1)) s (κ s) ∧ M 105 s = nI (d s) ∧ NOD S0 (κ s) ∧ SRC (κ s) ∧ κ s 1 7 ≤ 24) ∧ (∀ q, q < 1024 → M 106 q = nI (sl q) ∧ sl q ≤ n) ∧ (∀ q q', q < 1024 → q' < 1024 → sl q = sl q' → sl q ≠ 0 → q = q') ∧ (∀ s, s < n → ∃ e, e < 1024 ∧ sl ((hq (κ s) (16 * (S0 1 0 + 1)) + e) % 1024) = s + 1 ∧ ∀ e', e' < e → sl ((hq (κ s) (16 * (S0 1 0 + 1)) + e') % 1024) ≠ 0)
/-- only the walker changed -/
def WFR (M M' : j_M) : Prop := ∀ x, (x < 100 ∨ 111 ≤ x) → M' x = M x
theorem WKR_e {M M' : j_M} {S0 : a_S} {n : Nat} {κ : Nat → a_S} {d sl : Nat → Nat} (h : WKR M S0 n κ d sl) (h1 : M' 100 10 = M 100 10) (h2 : M' 100 15 = M 100 15) (h3 : ∀ x, 102 ≤ x → x ≤ 106 → M' x = M x) : WKR M' S0 n κ d sl := by
  obtain ⟨a1, a2, a3, a4, a5, a6, a7⟩ := h
  refine ⟨a1, by rw [h1]; exact a2, by rw [h2]; exact a3, fun s hs => ?_, fun q hq => ?_, a6, a7⟩
  · unfold STR
    rw [h3 102 (by omega) (by omega), h3 103 (by omega) (by omega), h3 104 (by omega) (by omega), h3 105 (by omega) (by omega)]
    exact a4 s hs
  · rw [h3 106 (by omega) (by omega)]
    exact a5 q hq
/-- the new state is put down -/
theorem x_e96 {M : j_M} {S0 S : a_S} {n q a : Nat} {κ : Nat → a_S} {d sl : Nat → Nat} (h : WKR M S0 n κ d sl) (hV : CVS M 70 S) (hS : NOD S0 S) (h24 : S 1 7 ≤ 24) (hq : q < 1024) : (n < 250 → ∃ M', xX10_enter_96 70 (nI a) (nI q) M = some (nI n, M') ∧ WFR M M' ∧ M' 100 10 = nI (n + 1) ∧ (∀ j, j ≠ 10 → M' 100 j = M 100 j) ∧ (∀ x, x ≠ 100 → (x < 102 ∨ 106 < x) → M' x = M x) ∧ STR M' (16 * (S0 1 0 + 1)) n S ∧ M' 105 n = nI a ∧ (∀ s, s < n → STR M' (16 * (S0 1 0 + 1)) s (κ s) ∧ M' 105 s = M 105 s) ∧ (∀ j, M' 106 j = if j = q then nI (n + 1) else M 106 j)) ∧ (n = 250 → xX10_enter_96 70 (nI a) (nI q) M = some (-1, mw M 100 16 (nI 1))) := by
  obtain ⟨a1, a2, a3, a4, a5, a6, a7⟩ := h
  have n6 := g_n hS.1.1
  rw [hS.2.1.1] at n6
  have v8 : M 70 8 = nI (S 1 7) := hV 0 8 (by omega) (Nat.le_refl _) (by show 8 < 15; omega)
  have v71 : ∀ j, j < 112 → M 71 j = nI (cell S j) := fun j hj => hV 1 j (by omega) (Nat.zero_le _) hj
  have v72 : ∀ j, j < 240 → M 72 j = nI (lcv (fd S j)) := fun j hj => hV 2 j (by omega) (Nat.zero_le _) hj
  constructor
  · intro hn
    obtain ⟨M1, hM1⟩ : ∃ M1, M1 = mcp M (70 + 1) 0 102 (n * 112) (16 * (S0 1 0 + 1)) := ⟨_, rfl⟩
    obtain ⟨M2, hM2⟩ : ∃ M2, M2 = mcp M1 (70 + 2) 0 103 (n * 24) (S 1 7) := ⟨_, rfl⟩
    have m1 : ∀ x, x ≠ 102 → M1 x = M x := fun x hx => by rw [hM1]; exact mcp_o hx
    have m2 : ∀ x, x ≠ 103 → M2 x = M1 x := fun x hx => by rw [hM2]; exact mcp_o hx
    have e1 : xX10_enter_96 70 (nI a) (nI q) M = some (nI n, mw (mw (mw (mw M2 104 n (nI (S 1 7))) 105 n (nI a)) 100 10 (nI (n + 1))) 106 q (nI (n + 1))) := by
      unfold xX10_enter_96
      rw [a2, e_oli2, if_pos (by rw [e_lt (by omega) (by omega)]; exact hn), e_oli2, a3, e_oli2, e_mul, e_gc (by omega) (by omega) (by omega) (by omega), e_ix2 (by omega), e_ix2 (by omega), e_ix2 (by omega), e_oml2, ← hM1, m1 100 (by omega), a2, e_oli2, m1 70 (by omega), v8, e_oli2, e_mul, e_gc (by omega) (by omega) (by omega) (by omega), e_ix2 (by omega), e_ix2 (by omega), e_oml2, ← hM2, m2 100 (by omega), m1 100 (by omega), a2, e_oli2, m2 70 (by omega), m1 70 (by omega), v8, e_oli2, e_gd (by omega) (by omega), e_ix2 (by omega), e_oml2, mw_oth (by omega), m2 100 (by omega), m1 100 (by omega), a2, e_oli2, e_gd (by omega) (by omega), e_ix2 (by omega), e_oml2, mw_oth (by omega), mw_oth (by omega), m2 100 (by omega), m1 100 (by omega), a2, e_oli2, e_oml2, e_add, mw_at (by omega), e_oli2, e_gd (by omega) (by omega), e_ix2 (by omega), e_oml2, mw_oth (by omega), mw_at (by omega), e_oli2, e_sub (by omega), show n + 1 - 1 = n by omega]
    have c102 : ∀ j, M2 102 j = if n * 112 ≤ j ∧ j < n * 112 + 16 * (S0 1 0 + 1) then M 71 (j - n * 112) else M 102 j := by
      intro j
      rw [m2 102 (by omega), hM1]
      unfold mcp
      rw [if_pos ⟨rfl, by omega⟩, Nat.zero_add]
    have c103 : ∀ j, M2 103 j = if n * 24 ≤ j ∧ j < n * 24 + S 1 7 then M 72 (j - n * 24) else M 103 j := by
      intro j
      rw [hM2]
      unfold mcp
      rw [if_pos ⟨rfl, by omega⟩, Nat.zero_add, m1 (70 + 2) (by omega), m1 103 (by omega)]
    have m12 : ∀ x, x ≠ 102 → x ≠ 103 → M2 x = M x := fun x h1 h2 => by rw [m2 x h2, m1 x h1]
    refine ⟨_, e1, fun x hx => ?_, ?_, fun j hj => ?_, fun x h1 h2 => ?_, ⟨?_, fun j hj => ?_, fun j hj => ?_⟩, ?_, fun s hs => ⟨⟨?_, fun j hj => ?_, fun j hj => ?_⟩, ?_⟩, fun j => ?_⟩
    · rw [mw_oth (by omega), mw_oth (by omega), mw_oth (by omega), mw_oth (by omega), m12 x (by omega) (by omega)]
    · rw [mw_oth (by omega), mw_at (by omega)]
    · rw [mw_oth (by omega), mw_ne hj, mw_oth (by omega), mw_oth (by omega), m12 100 (by omega) (by omega)]
    · rw [mw_oth (by omega), mw_oth h1, mw_oth (by omega), mw_oth (by omega), m12 x (by omega) (by omega)]
    · rw [mw_oth (by omega), mw_oth (by omega), mw_oth (by omega), mw_at (by omega)]
    · rw [mw_oth (by omega), mw_oth (by omega), mw_oth (by omega), mw_oth (by omega), c103, if_pos (by omega), show 24 * n + j - n * 24 = j by omega, v72 j (by omega)]
    · rw [mw_oth (by omega), mw_oth (by omega), mw_oth (by omega), mw_oth (by omega), c102, if_pos (by omega), show 112 * n + j - n * 112 = j by omega, v71 j (by omega)]
    · rw [mw_oth (by omega), mw_oth (by omega), mw_at (by omega)]
    · rw [mw_oth (by omega), mw_oth (by omega), mw_oth (by omega), mw_ne (by omega), m12 104 (by omega) (by omega)]
      exact (a4 s hs).1.1
    · have := (a4 s hs).2.2.2.2
      rw [mw_oth (by omega), mw_oth (by omega), mw_oth (by omega), mw_oth (by omega), c103, if_neg (by omega)]
      exact (a4 s hs).1.2.1 j hj
    · rw [mw_oth (by omega), mw_oth (by omega), mw_oth (by omega), mw_oth (by omega), c102, if_neg (by omega)]
      exact (a4 s hs).1.2.2 j hj
    · rw [mw_oth (by omega), mw_oth (by omega), mw_ne (by omega), mw_oth (by omega), m12 105 (by omega) (by omega)]
    · by_cases c : j = q
      · rw [if_pos c, c, mw_at (by omega)]
      · rw [if_neg c, mw_ne c, mw_oth (by omega), mw_oth (by omega), mw_oth (by omega), m12 106 (by omega) (by omega)]
  · intro hn
    unfold xX10_enter_96
    rw [a2, e_oli2, if_neg (by rw [e_lt (by omega) (by omega)]; omega), e_gz1, e_oml2]
