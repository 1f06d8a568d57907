/-! ===== going: the class ===== -/
def acv (g : Nat → Nat) : Nat := (g 0 + 1) + 16 * g 1 + 2048 * g 2
def pcv (g : Nat → Nat) : Nat := if g 0 ≤ 8 then (g 0 - 2) + 16 * g 2 + 2048 * (if g 0 = 4 ∨ g 0 = 5 then g 3 else 0) + 33554432 * g 1 else (g 0 - 2) + 16 * g 1 + 2048 * (if g 0 = 13 then g 2 else 0)
/-- the class's script at 22 .. 27 -/
def SCP (N : j_M) (tm : Nat) (S : a_S) : Prop :=
  (∀ c, c < 6 → N (tm + 23) c = nI (S 3112 c) ∧ N (tm + 24) c = nI (S 3118 c) ∧ N (tm + 25) c = nI (S 3124 c)) ∧
  (∀ c k, c < 6 → k < S 3112 c → N (tm + 22) (200 * c + k) = nI (acv (fun j => S 3130 (3 * (200 * c + k) + j)))) ∧
  N (tm + 21) 5 = nI (S 7362 0) ∧ N (tm + 21) 6 = nI (S 7363 0) ∧ N (tm + 21) 7 = nI (S 1 6) ∧
  (∀ p, p < S 7362 0 → N (tm + 26) p = nI (pcv (fun j => S 7364 (4 * p + j))))
def sce (tm : Nat) (N N' : j_M) : Prop := ∀ x, x < tm + 21 ∨ tm + 27 ≤ x → N' x = N x
theorem sce_r {tm : Nat} {N : j_M} : sce tm N N := fun _ _ => rfl
theorem sce_t {tm : Nat} {N N' N'' : j_M} (h : sce tm N N') (h2 : sce tm N' N'') : sce tm N N'' := fun x hx => by rw [h2 x hx, h x hx]
theorem sce_w {tm a i : Nat} {v : Int32} {N : j_M} (h : tm + 21 ≤ a ∧ a < tm + 27) : sce tm N (mw N a i v) := fun x hx => mw_oth (by omega)
theorem SCP_c {N : j_M} {tm : Nat} {S S' : a_S} (h : SCP N tm S) (h1 : ∀ r i, stt r i → ¬ (r = 1 ∧ i = 5) → S' r i = S r i) : SCP N tm S' := by
  unfold SCP at h ⊢
  simp only [fun i => h1 3112 i (by unfold stt; omega) (by omega), fun i => h1 3118 i (by unfold stt; omega) (by omega), fun i => h1 3124 i (by unfold stt; omega) (by omega), fun i => h1 3130 i (by unfold stt; omega) (by omega), h1 7362 0 (by unfold stt; omega) (by omega), h1 7363 0 (by unfold stt; omega) (by omega), fun i => h1 7364 i (by unfold stt; omega) (by omega), h1 1 6 (by unfold stt; omega) (by omega)]
  exact h
theorem xs_scr {N : j_M} {t r i v : Nat} {S : a_S} (h : (3112 ≤ r ∧ r < 6730) ∨ 7362 ≤ r) : XS N t (sw S r i v) = XS N t S := by
  funext x j
  unfold XS
  by_cases hr : t ≤ x ∧ x < t + 20 ∧ cl (x - t) ≤ j ∧ j < ch (x - t)
  · rw [if_pos hr, if_pos hr]
    refine cv_c (by omega) (fun r' y hc => sw_ne ?_)
    rintro ⟨rfl, rfl⟩
    unfold cu cu1 at hc
    omega
  · rw [if_neg hr, if_neg hr]
theorem a_kw {g : Nat → Nat} {M : j_M} (h : AOK g) : xX0_keyword (nI (acv g)) M = some (nI (g 0 + 1), M) := by
  unfold AOK at h
  unfold xX0_keyword acv
  rw [e_and, n_m15, show (g 0 + 1 + 16 * g 1 + 2048 * g 2) % 16 = g 0 + 1 by omega]
theorem a_fi {g : Nat → Nat} {M : j_M} (h : AOK g) : xX0_first (nI (acv g)) M = some (nI (g 1), M) := by
  unfold AOK at h
  unfold xX0_first acv
  rw [e_us (by omega) (by omega), e_and, n_m127, show (g 0 + 1 + 16 * g 1 + 2048 * g 2) / 2 ^ 4 % 128 = g 1 by omega]
theorem a_se {g : Nat → Nat} {M : j_M} (h : AOK g) : xX0_second (nI (acv g)) M = some (nI (g 2), M) := by
  unfold AOK at h
  unfold xX0_second acv
  rw [e_us (by omega) (by omega), e_and, n_m14, show (g 0 + 1 + 16 * g 1 + 2048 * g 2) / 2 ^ 11 % 16384 = g 2 by omega]
theorem SCP_done {N : j_M} {S : a_S} {c v : Nat} (h : SCP N 1 S) (hc : c < 6) : SCP (mw N 25 c (nI v)) 1 (sw S 3118 c v) := by
  obtain ⟨h1, h2, h3, h4, h5, h6⟩ := h
  refine ⟨fun d hd => ?_, fun d k hd hk => ?_, ?_, ?_, ?_, fun p hp => ?_⟩
  · have := h1 d hd
    rw [mw_oth (by omega), mw_oth (x := 1 + 25) (by omega), sw_r (by omega), sw_r (r := 3118) (x := 3124) (by omega)]
    refine ⟨this.1, ?_, this.2.2⟩
    by_cases hdc : d = c
    · subst hdc
      rw [sw_at]
      exact mw_at (by omega)
    · rw [sw_i hdc]
      exact (mw_ne hdc).trans this.2.1
  · rw [sw_r (by omega)] at hk
    rw [mw_oth (by omega)]
    simp (disch := omega) only [sw_r]
    exact h2 d k hd hk
  · rw [mw_oth (by omega), sw_r (by omega)]; exact h3
  · rw [mw_oth (by omega), sw_r (by omega)]; exact h4
  · rw [mw_oth (by omega), sw_r (by omega)]; exact h5
  · rw [sw_r (by omega)] at hp
    rw [mw_oth (by omega)]
    simp (disch := omega) only [sw_r]
    exact h6 p hp
theorem SCP_rest {N : j_M} {S : a_S} {c v : Nat} (h : SCP N 1 S) (hc : c < 6) : SCP (mw N 26 c (nI v)) 1 (sw S 3124 c v) := by
  obtain ⟨h1, h2, h3, h4, h5, h6⟩ := h
  refine ⟨fun d hd => ?_, fun d k hd hk => ?_, ?_, ?_, ?_, fun p hp => ?_⟩
  · have := h1 d hd
    rw [mw_oth (by omega), mw_oth (x := 1 + 24) (by omega), sw_r (by omega), sw_r (r := 3124) (x := 3118) (by omega)]
    refine ⟨this.1, this.2.1, ?_⟩
    by_cases hdc : d = c
    · subst hdc
      rw [sw_at]
      exact mw_at (by omega)
    · rw [sw_i hdc]
      exact (mw_ne hdc).trans this.2.2
  · rw [sw_r (by omega)] at hk
    rw [mw_oth (by omega)]
    simp (disch := omega) only [sw_r]
    exact h2 d k hd hk
  · rw [mw_oth (by omega), sw_r (by omega)]; exact h3
  · rw [mw_oth (by omega), sw_r (by omega)]; exact h4
  · rw [mw_oth (by omega), sw_r (by omega)]; exact h5
  · rw [sw_r (by omega)] at hp
    rw [mw_oth (by omega)]
    simp (disch := omega) only [sw_r]
    exact h6 p hp
theorem SCP_one {N : j_M} {S : a_S} {i v : Nat} {r j : Nat} (h : SCP N 1 S) (hh : (r = 7363 ∧ j = 0 ∧ i = 6) ∨ (r = 1 ∧ j = 6 ∧ i = 7)) : SCP (mw N 22 i (nI v)) 1 (sw S r j v) := by
  obtain ⟨h1, h2, h3, h4, h5, h6⟩ := h
  refine ⟨fun d hd => ?_, fun d k hd hk => ?_, ?_, ?_, ?_, fun p hp => ?_⟩
  · have := h1 d hd
    rw [mw_oth (by omega), mw_oth (x := 1 + 24) (by omega), mw_oth (x := 1 + 25) (by omega), sw_r (by omega), sw_r (by omega), sw_r (by omega)]
    exact this
  · rw [sw_r (by omega)] at hk
    have q : ∀ y, sw S r j v 3130 y = S 3130 y := fun y => sw_r (by omega)
    rw [mw_oth (by omega)]
    simp only [q]
    exact h2 d k hd hk
  · rw [sw_ne (by omega), ← h3]
    exact mw_ne (by omega)
  · rcases hh with ⟨rfl, rfl, rfl⟩ | ⟨rfl, rfl, rfl⟩
    · rw [sw_at]; exact mw_at (by omega)
    · rw [sw_r (by omega), ← h4]; exact mw_ne (by omega)
  · rcases hh with ⟨rfl, rfl, rfl⟩ | ⟨rfl, rfl, rfl⟩
    · rw [sw_r (by omega), ← h5]; exact mw_ne (by omega)
    · rw [sw_at]; exact mw_at (by omega)
  · rw [sw_ne (by omega)] at hp
    have q : ∀ y, sw S r j v 7364 y = S 7364 y := fun y => sw_r (by omega)
    rw [mw_oth (by omega)]
    simp only [q]
    exact h6 p hp
theorem y_acts {N : j_M} {S : a_S} {c : Nat} (hs : SCP N 1 S) (hi : INV S z0) (hp : PR S) (hc : c < S 1 0) (h9 : S 6961 0 < 2147482000) : ∃ N', (∀ K : j_M → Option (Int32 × j_M), obi (xX6_isReady 1 (nI c) (XS N 2 S)) (fun v3 M2 => if v3 = (0 : Int32) then K M2 else obv (xX6_doNextAct 1 (nI c) M2) fun M4 => K M4) = K (XS N' 2 (a_acts S c))) ∧ SCP N' 1 (a_acts S c) ∧ sce 1 N N' := by
  have hn := g_n hi.1
  have hq := INV_q hi
  have htk := g_tk hi.1
  have hc1 := hp.1 c (by omega)
  have g := g_mv hi.1 c
  have s1 := hs.1 c (by omega)
  have e24 : N 24 c = nI (S 3112 c) := s1.1
  have e25 : N 25 c = nI (S 3118 c) := s1.2.1
  have e26 : N 26 c = nI (S 3124 c) := s1.2.2
  have hms := hi.2.2.2.2.2.2.2.1
  have hm0 := msv_0 hms (show c < 6 by omega)
  have hml := msv_lt (c := c) hi.1
  have er : xX6_isReady 1 (nI c) (XS N 2 S) = some (if S 3118 c = S 3112 c ∨ S 292 c ≠ 0 ∨ S 1 5 < S 3124 c then nI 0 else nI 1, XS N 2 S) := by
    unfold xX6_isReady
    simp (disch := omega) only [e_gd, e_ix, e_oli2, e_oml2, e_obi2, e_obv2, e_add, e_mul, e_sub, e_eq, e_lt, e_le, e_eq0, e_0eq, e_lt0, e_0lt, e_le0, e_0le, e_m1, e_m1', e_m1lt, Nat.add_assoc, Nat.not_lt_zero, Nat.le_zero_eq, Nat.reduceAdd, xs_o, e24, e25, e26, x_missOf (show c < 6 by omega), xr_0_14]
    by_cases h1 : S 3118 c = S 3112 c
    · rw [if_pos (by omega), if_pos (Or.inl h1)]
    · rw [if_neg (by omega)]
      by_cases h2 : S 292 c = 0
      · rw [if_pos (hm0.2 h2)]
        by_cases h3 : S 1 5 < S 3124 c
        · rw [if_pos h3, if_pos (Or.inr (Or.inr h3))]
        · have hA : ¬ (S 3118 c = S 3112 c ∨ S 292 c ≠ 0 ∨ S 1 5 < S 3124 c) := by omega
          rw [if_neg h3, if_neg hA]
      · rw [if_neg (fun e => h2 (hm0.1 e)), if_pos (Or.inr (Or.inl h2))]
  rw [er]
  unfold a_acts
  by_cases hA : S 3118 c = S 3112 c ∨ S 292 c ≠ 0 ∨ S 1 5 < S 3124 c
  · refine ⟨N, fun K => ?_, ?_, sce_r⟩
    · rw [if_pos hA, if_pos hA, e_obi2, if_pos (by decide)]
    · rw [if_pos hA]; exact hs
  · have ha := hp.2.1 c (S 3118 c) (by omega) (by omega)
    have hac := hs.2.1 c (S 3118 c) (by omega) (by omega)
    have e23 : N 23 (200 * c + S 3118 c) = nI (acv (fun j => S 3130 (3 * (200 * c + S 3118 c) + j))) := hac
    have kw := fun M => a_kw (M := M) ha
    have fi := fun M => a_fi (M := M) ha
    have se := fun M => a_se (M := M) ha
    simp only [Nat.add_zero] at kw fi se
    unfold AOK at ha
    simp only [Nat.add_zero] at ha
    have i1 : INV (sw S 3118 c (S 3118 c + 1)) z0 := INV_scr hi (fun r i a b _ _ => by rw [sw_r a])
    have s2 := SCP_done (v := S 3118 c + 1) hs (show c < 6 by omega)
    by_cases h4 : S 3130 (3 * (200 * c + S 3118 c)) = 3
    · refine ⟨mw (mw N 25 c (nI (S 3118 c + 1))) 26 c (nI (S 1 5 + S 3130 (3 * (200 * c + S 3118 c) + 1))), fun K => ?_, ?_, sce_t (sce_w (by omega)) (sce_w (by omega))⟩
      · rw [if_neg hA, if_neg hA, if_pos h4, e_obi2, if_neg (by decide)]
        unfold xX6_doNextAct
        simp (disch := omega) only [e_gd, e_ix, e_oli2, e_oml2, e_obi2, e_obv2, e_add, e_mul, e_sub, e_eq, e_lt, e_le, e_eq0, e_0eq, e_lt0, e_0lt, e_le0, e_0le, e_m1, e_m1', e_m1lt, Nat.add_assoc, Nat.not_lt_zero, Nat.le_zero_eq, Nat.reduceAdd, xs_o, e25, Nat.mul_comm c 200, e23, xs_wo, kw, fi, xr_0_14]
        rw [if_pos (by omega), xs_scr (by omega), xs_scr (by omega), e_obv2]
      · rw [if_neg hA, if_pos h4]
        exact SCP_rest s2 (by omega)
    · have ea := x_access (N := mw N 25 c (nI (S 3118 c + 1))) (t := 2) (c := c) (l := S 3130 (3 * (200 * c + S 3118 c) + 1)) (w := S 3130 (3 * (200 * c + S 3118 c)) + 1) (v := S 3130 (3 * (200 * c + S 3118 c) + 2)) (S := sw S 3118 c (S 3118 c + 1)) (by omega) i1 (by rw [sw_r (by omega)]; exact hc) (by omega) (by omega) (by omega) (by omega) (by rw [sw_r (by omega)]; exact h9)
      rw [xs_scr (by omega)] at ea
      refine ⟨mw N 25 c (nI (S 3118 c + 1)), fun K => ?_, ?_, sce_w (by omega)⟩
      · rw [if_neg hA, if_neg hA, if_neg h4, e_obi2, if_neg (by decide)]
        unfold xX6_doNextAct
        simp (disch := omega) only [e_gd, e_ix, e_oli2, e_oml2, e_obi2, e_obv2, e_add, e_mul, e_sub, e_eq, e_lt, e_le, e_eq0, e_0eq, e_lt0, e_0lt, e_le0, e_0le, e_m1, e_m1', e_m1lt, Nat.add_assoc, Nat.not_lt_zero, Nat.le_zero_eq, Nat.reduceAdd, xs_o, e25, Nat.mul_comm c 200, e23, xs_wo, kw, fi, se, xr_0_14, ea]
        rw [if_neg (by omega), e_obv2]
      · rw [if_neg hA, if_neg h4]
        exact SCP_c s2 (fun r i h1 _ => st_begins h1)
theorem y_actL {l o b r : Int32} (K : Int32 → Int32 → Int32 → Int32 → j_M → Option (Int32 × j_M)) : ∀ (m n c : Nat) (N : j_M) (S : a_S), SCP N 1 S → INV S z0 → PR S → c + m = S 1 0 → S 6961 0 + m < 2147482000 → ∃ N', xX6_goRounds_23 K 1 (n + m + 1) l o b r (nI c) (XS N 2 S) = xX6_goRounds_59 K 1 fu l o b r (nI 0) (XS N' 2 (a_actL m c S)) ∧ SCP N' 1 (a_actL m c S) ∧ sce 1 N N'
  | 0, n, c, N, S, hs, hi, hp, hm, h9 => by
    have hn := g_n hi.1
    refine ⟨N, ?_, hs, sce_r⟩
    rw [show n + 0 + 1 = n + 1 from rfl, xX6_goRounds_23.eq_2]
    simp (disch := omega) only [e_gd, e_ix, e_oli2, e_oml2, e_obi2, e_obv2, e_add, e_mul, e_sub, e_eq, e_lt, e_le, e_eq0, e_0eq, e_lt0, e_0lt, e_le0, e_0le, e_m1, e_m1', e_m1lt, Nat.add_assoc, Nat.not_lt_zero, Nat.le_zero_eq, Nat.reduceAdd, xr_0_9, if_pos]
    rfl
  | m + 1, n, c, N, S, hs, hi, hp, hm, h9 => by
    have hn := g_n hi.1
    have e0 : a_acts S c 1 0 = S 1 0 := st_acts (Or.inl ⟨rfl, by omega⟩) (by omega)
    have t1 := t_acts (S := S) (c := c)
    obtain ⟨N1, e1, s1, q1⟩ := y_acts hs hi hp (show c < S 1 0 by omega) (by omega)
    obtain ⟨N2, e2, s2, q2⟩ := y_actL (l := l) (o := o) (b := b) (r := r) K m n (c + 1) N1 (a_acts S c) s1 (INV_acts hi hp (by omega)) (PR_acts hp (by omega) (g_tk hi.1)) (by rw [e0]; omega) (by omega)
    refine ⟨N2, ?_, s2, sce_t q1 q2⟩
    rw [show n + (m + 1) + 1 = (n + m + 1) + 1 by omega, xX6_goRounds_23.eq_2, actL_s, ← e2, ← e1 (fun M => xX6_goRounds_23 K 1 (n + m + 1) l o b r (nI (c + 1)) M)]
    simp (disch := omega) only [e_gd, e_ix, e_oli2, e_oml2, e_obi2, e_obv2, e_add, e_mul, e_sub, e_eq, e_lt, e_le, e_eq0, e_0eq, e_lt0, e_0lt, e_le0, e_0le, e_m1, e_m1', e_m1lt, Nat.add_assoc, Nat.not_lt_zero, Nat.le_zero_eq, Nat.reduceAdd, xr_0_9]
    rw [if_neg (by omega)]
theorem y_draw {N : j_M} {S : a_S} {q : Nat} (hs : SCP N 1 S) (h1 : 1 ≤ q) (hq : q ≤ 240) : xX9_draw 22 (nI q) (XS N 2 S) = some (nI (a_dr S 1 6 / 256 % q), XS (mw N 22 7 (nI (a_dr S 1 6))) 2 (a_dr S)) := by
  have hx : (1664525 * S 1 6 + 1013904223) % 4294967296 < 4294967296 := Nat.mod_lt _ (by omega)
  have e6 : a_dr S 1 6 = (1664525 * S 1 6 + 1013904223) % 4294967296 := by unfold a_dr; rw [sw_at]
  have e7 : N 22 7 = nI (S 1 6) := hs.2.2.2.2.1
  rw [e6]
  unfold a_dr
  rw [xs_u (by omega)]
  generalize hy : (1664525 * S 1 6 + 1013904223) % 4294967296 = y at *
  have ed := dr_eq (S 1 6)
  rw [hy] at ed
  unfold xX9_draw
  simp (disch := omega) only [e_gd, e_ix, e_oli2, e_oml2, e_obi2, e_obv2, e_add, e_mul, e_sub, e_eq, e_lt, e_le, e_eq0, e_0eq, e_lt0, e_0lt, e_le0, e_0le, e_m1, e_m1', e_m1lt, Nat.add_assoc, Nat.not_lt_zero, Nat.le_zero_eq, xs_o, e7, ed, xs_wo, mw_at, e_us, e_gn]
  rw [if_neg (by omega), e_rem (by omega) (by omega) (by omega)]
theorem y_gd {o : Nat} (ho : o ≤ 2) {l b r : Int32} (K : Int32 → Int32 → Int32 → Int32 → j_M → Option (Int32 × j_M)) : ∀ (m n k : Nat) (N : j_M) (S : a_S), SCP N 1 S → INV S z0 → k + m = 3 → S 6961 0 + 2 * m < 2147481000 → ∃ N', xX6_goRounds_59 K 1 (n + m + 1) l (nI o) b r (nI k) (XS N 2 S) = xX6_goRounds_94 K 1 l (nI o) b r (XS N' 2 (a_gd o m S)) ∧ SCP N' 1 (a_gd o m S) ∧ sce 1 N N'
  | 0, n, k, N, S, hs, hi, hk, h9 => by
    refine ⟨N, ?_, hs, sce_r⟩
    rw [show n + 0 + 1 = n + 1 from rfl, xX6_goRounds_59.eq_2]
    simp (disch := omega) only [e_gd, e_ix, e_oli2, e_oml2, e_obi2, e_obv2, e_add, e_mul, e_sub, e_eq, e_lt, e_le, e_eq0, e_0eq, e_lt0, e_0lt, e_le0, e_0le, e_m1, e_m1', e_m1lt, Nat.add_assoc, Nat.not_lt_zero, Nat.le_zero_eq, if_pos]
    rfl
  | m + 1, n, k, N, S, hs, hi, hk, h9 => by
    have hq := INV_q hi
    rw [show n + (m + 1) + 1 = (n + m + 1) + 1 by omega, xX6_goRounds_59.eq_2, gd_s]
    by_cases h0 : S 1 7 = 0
    · refine ⟨N, ?_, ?_, sce_r⟩
      · rw [if_pos h0]
        simp (disch := omega) only [e_gd, e_ix, e_oli2, e_oml2, e_obi2, e_obv2, e_add, e_mul, e_sub, e_eq, e_lt, e_le, e_eq0, e_0eq, e_lt0, e_0lt, e_le0, e_0le, e_m1, e_m1', e_m1lt, Nat.add_assoc, Nat.not_lt_zero, Nat.le_zero_eq, Nat.reduceAdd, xr_0_8]
        rw [if_neg (by omega), if_pos h0]
      · rw [if_pos h0]; exact hs
    · have key : ∀ (N1 : j_M) (A : a_S) (i : Nat), SCP N1 1 A → INV A z0 → i < A 1 7 → A 6961 0 = S 6961 0 → ∃ N', (obi (xX1_deliverAt 2 (nI i) (XS N1 2 A)) fun v5 M4 => xX6_goRounds_59 K 1 (n + m + 1) l (nI o) b r (nI (k + 1)) M4) = xX6_goRounds_94 K 1 l (nI o) b r (XS N' 2 (a_gd o m (a_del A i))) ∧ SCP N' 1 (a_gd o m (a_del A i)) ∧ sce 1 N1 N' := by
        intro N1 A i hs1 hA hiA h6
        have td := t_del (S := A) (i := i)
        obtain ⟨N2, ey, s2, q2⟩ := y_gd ho (l := l) (b := b) (r := r) K m n (k + 1) N1 (a_del A i) (SCP_c hs1 (fun r j h1 _ => st_del h1)) (INV_del hA hiA) (by omega) (by omega)
        refine ⟨N2, ?_, s2, q2⟩
        rw [x_del (by omega) hA hiA (by omega), e_obi2, ey]
      rw [if_neg h0]
      simp (disch := omega) only [e_gd, e_ix, e_oli2, e_oml2, e_obi2, e_obv2, e_add, e_mul, e_sub, e_eq, e_lt, e_le, e_eq0, e_0eq, e_lt0, e_0lt, e_le0, e_0le, e_m1, e_m1', e_m1lt, Nat.add_assoc, Nat.not_lt_zero, Nat.le_zero_eq, Nat.reduceAdd, xr_0_8]
      rw [if_neg (show ¬ 3 ≤ k by omega), if_neg h0, show n + (m + 1) = n + m + 1 from rfl]
      unfold xX6_choose
      simp (disch := omega) only [e_gd, e_ix, e_oli2, e_oml2, e_obi2, e_obv2, e_add, e_mul, e_sub, e_eq, e_lt, e_le, e_eq0, e_0eq, e_lt0, e_0lt, e_le0, e_0le, e_m1, e_m1', e_m1lt, Nat.add_assoc, Nat.not_lt_zero, Nat.le_zero_eq, Nat.reduceAdd, xr_0_8]
      by_cases o0 : o = 0
      · obtain ⟨x, ex⟩ := key N S 0 hs hi (by omega) rfl
        refine ⟨x, ?_⟩
        rw [if_pos o0, if_pos o0, e_obi2]
        exact ex
      · rw [if_neg o0, if_neg o0]
        by_cases o1 : o = 1
        · obtain ⟨x, ex⟩ := key N S (S 1 7 - 1) hs hi (by omega) rfl
          refine ⟨x, ?_⟩
          rw [if_pos o1, if_pos o1, e_obi2]
          exact ex
        · obtain ⟨x, ex, s2, q2⟩ := key (mw N 22 7 (nI (a_dr S 1 6))) (a_dr S) (a_dr S 1 6 / 256 % S 1 7) (by
            have e6 : a_dr S = sw S 1 6 (a_dr S 1 6) := by
              have : a_dr S 1 6 = (1664525 * S 1 6 + 1013904223) % 4294967296 := by unfold a_dr; rw [sw_at]
              rw [this]
              rfl
            have := SCP_one (i := 7) (v := a_dr S 1 6) (r := 1) (j := 6) hs (Or.inr ⟨rfl, rfl, rfl⟩)
            rw [← e6] at this
            exact this) (INV_dr hi) (by rw [dr_o (r := 1) (i := 7) (by omega)]; exact Nat.mod_lt _ (by omega)) (dr_o (by omega))
          refine ⟨x, ?_, ?_, sce_t (sce_w (by omega)) q2⟩
          · rw [if_neg o1, if_neg o1, y_draw hs (by omega) (by omega), e_obi2, e_obi2]
            exact ex
          · rw [if_neg o1]
            exact s2
theorem x_sum_l {N : j_M} {t : Nat} {S : a_S} (kk : Nat) (hk : 15 ≤ kk ∧ kk < 20) : ∀ (m n k s : Nat), k + m = 6 → xX5_sum_4 6 (t + kk) (n + m + 1) (nI s) (nI k) (XS N t S) = some (nI (s + sm (fun c => S 6736 (5 * (k + c) + (kk - 15))) m), XS N t S)
  | 0, n, k, s, h => by
    rw [show n + 0 + 1 = n + 1 from rfl, xX5_sum_4.eq_2, show Int32.ofNat 6 = nI 6 from rfl]
    simp (disch := omega) only [e_gd, e_ix, e_oli2, e_oml2, e_obi2, e_obv2, e_add, e_mul, e_sub, e_eq, e_lt, e_le, e_eq0, e_0eq, e_lt0, e_0lt, e_le0, e_0le, e_m1, e_m1', e_m1lt, Nat.add_assoc, Nat.not_lt_zero, Nat.le_zero_eq, if_pos]
    rfl
  | m + 1, n, k, s, h => by
    have e : XS N t S (t + kk) k = nI (S 6736 (5 * k + (kk - 15))) := by
      rw [xs_r (by omega) (by unfold cl; split <;> (try split) <;> omega) (by unfold ch; rw [if_neg (by omega), if_neg (by omega), if_neg (by omega), if_neg (by omega), if_neg (by omega), if_neg (by omega), if_neg (by omega), if_neg (by omega), if_neg (by omega), if_neg (by omega), if_neg (by omega)]; omega)]
      unfold cv
      rw [if_neg (by omega), if_neg (by omega), if_neg (by omega), if_neg (by omega), if_neg (by omega), if_neg (by omega), if_neg (by omega), if_neg (by omega), if_neg (by omega), if_neg (by omega), if_neg (by omega), if_neg (by omega), if_neg (by omega), if_neg (by omega), if_neg (by omega)]
    have ih := x_sum_l (N := N) (t := t) (S := S) kk hk m n (k + 1) (s + S 6736 (5 * k + (kk - 15))) (by omega)
    rw [show n + (m + 1) + 1 = (n + m + 1) + 1 by omega, xX5_sum_4.eq_2, show Int32.ofNat 6 = nI 6 from rfl]
    simp (disch := omega) only [e_gd, e_ix, e_oli2, e_oml2, e_obi2, e_obv2, e_add, e_mul, e_sub, e_eq, e_lt, e_le, e_eq0, e_0eq, e_lt0, e_0lt, e_le0, e_0le, e_m1, e_m1', e_m1lt, Nat.add_assoc, Nat.not_lt_zero, Nat.le_zero_eq, e]
    rw [if_neg (by omega), show n + (m + 1) = n + m + 1 from rfl, ih, sm_f]
    congr 3
    have q : ∀ c, k + 1 + c = k + (c + 1) := fun c => by omega
    simp only [q, Nat.add_zero]
    omega
theorem x_sum {N : j_M} {t : Nat} {S : a_S} (kk : Nat) (hk : 15 ≤ kk ∧ kk < 20) : xX5_sum 6 (t + kk) (XS N t S) = some (nI (sm (fun c => S 6736 (5 * c + (kk - 15))) 6), XS N t S) := by
  have e := x_sum_l (N := N) (t := t) (S := S) kk hk 6 (1000000 - 7) 0 0 (by omega)
  rw [show 1000000 - 7 + 6 + 1 = fu by unfold fu; omega, Nat.zero_add] at e
  simp only [Nat.zero_add] at e
  exact e
theorem y_ended {N : j_M} {S : a_S} (hi : INV S z0) : xX5_sum 6 18 (XS N 2 S) = some (nI (S 1 10), XS N 2 S) := by
  have e := x_sum (N := N) (t := 2) (S := S) 16 (by omega)
  rw [hi.2.2.2.2.2.2.2.2.2.2.2.1]
  exact e
theorem y_goN {o : Nat} (ho : o ≤ 2) {w : Nat} : ∀ (m n k l : Nat) (N : j_M) (S : a_S), SCP N 1 S → INV S z0 → PR S → k + m = l → l ≤ 60 → S 1 5 + m ≤ 10100 → S 6961 0 + 18 * m < 2147470000 → w ≤ S 1 10 → ∃ N', xX6_goRounds_14 1 (n + m + 1) (nI l) (nI o) (nI w) (nI k) (XS N 2 S) = some (nI (a_goN o m S 1 10 - w), XS N' 2 (a_goN o m S)) ∧ SCP N' 1 (a_goN o m S) ∧ sce 1 N N'
  | 0, n, k, l, N, S, hs, hi, hp, hk, hl, h5, h9, hw => by
    refine ⟨N, ?_, hs, sce_r⟩
    rw [show n + 0 + 1 = n + 1 from rfl, xX6_goRounds_14.eq_2]
    simp (disch := omega) only [e_gd, e_ix, e_oli2, e_oml2, e_obi2, e_obv2, e_add, e_mul, e_sub, e_eq, e_lt, e_le, e_eq0, e_0eq, e_lt0, e_0lt, e_le0, e_0le, e_m1, e_m1', e_m1lt, Nat.add_assoc, Nat.not_lt_zero, Nat.le_zero_eq, Nat.reduceAdd, y_ended hi, if_pos]
    rfl
  | m + 1, n, k, l, N, S, hs, hi, hp, hk, hl, h5, h9, hw => by
    have hn := g_n hi.1
    have h1 := OK_go1 (o := o) hi hp (by omega)
    have a1 := OK_actL (S 1 0) 0 S hi hp (by omega)
    have a2 := OK_gd (o := o) 3 _ a1.1
    have e5 : a_gd o 3 (a_actL (S 1 0) 0 S) 1 5 = S 1 5 := by
      rw [a2.2.2.1 1 5 (Or.inl ⟨rfl, by omega⟩) (by omega), st_actL (Or.inl ⟨rfl, by omega⟩) (by omega)]
    obtain ⟨N1, e1, s1, q1⟩ := y_actL (l := nI l) (o := nI o) (b := nI w) (r := nI k) (xX6_goRounds_14 1 (n + m + 1)) (S 1 0) (1000000 - (S 1 0 + 1)) 0 N S hs hi hp (by omega) (by omega)
    rw [show 1000000 - (S 1 0 + 1) + S 1 0 + 1 = fu by unfold fu; omega] at e1
    obtain ⟨N2, e2, s2, q2⟩ := y_gd ho (l := nI l) (b := nI w) (r := nI k) (xX6_goRounds_14 1 (n + m + 1)) 3 (1000000 - 4) 0 N1 (a_actL (S 1 0) 0 S) s1 a1.1 (by omega) (by omega)
    rw [show 1000000 - 4 + 3 + 1 = fu by unfold fu; omega] at e2
    obtain ⟨N3, e3, s3, q3⟩ := y_goN ho (w := w) m n (k + 1) l N2 (a_go1 o S) (SCP_c s2 (fun r j a b => st_tick a b)) h1.1 h1.2.1 (by omega) hl (by omega) (by omega) (by omega)
    refine ⟨N3, ?_, s3, sce_t q1 (sce_t q2 q3)⟩
    have et := x_tick (N := N2) (t := 2) (by omega) a2.1 (by omega) (by omega)
    rw [show n + (m + 1) + 1 = (n + m + 1) + 1 by omega, xX6_goRounds_14.eq_2, f_le (by omega) (by omega), if_neg (by omega), e1, e2]
    unfold xX6_goRounds_94
    simp only [Nat.reduceAdd]
    rw [et, e_obv2, e_add, goN_s]
    exact e3
theorem y_go {N : j_M} {S : a_S} {l o : Nat} (ho : o ≤ 2) (hs : SCP N 1 S) (hi : INV S z0) (hp : PR S) (hl : l ≤ 60) (h5 : S 1 5 + l ≤ 10100) (h9 : S 6961 0 + 18 * l < 2147470000) : ∃ N', xX6_goRounds 1 (nI l) (nI o) (XS N 2 S) = some (nI (a_goN o l S 1 10 - S 1 10), XS N' 2 (a_goN o l S)) ∧ SCP N' 1 (a_goN o l S) ∧ sce 1 N N' := by
  obtain ⟨N1, e1, s1, q1⟩ := y_goN ho (w := S 1 10) l (1000000 - (l + 1)) 0 l N S hs hi hp (by omega) hl h5 h9 (Nat.le_refl _)
  rw [show 1000000 - (l + 1) + l + 1 = fu by unfold fu; omega] at e1
  refine ⟨N1, ?_, s1, q1⟩
  unfold xX6_goRounds
  simp only [Nat.reduceAdd]
  rw [y_ended hi, e_obi2, e1]
