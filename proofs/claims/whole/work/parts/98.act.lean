/-! ===== an act: the class ===== -/
theorem x_of {v a b : Nat} {M : j_M} (hv : v < 16) (ha : a < 128) (hb : b < 16384) : xX0_of (nI v) (nI a) (nI b) M = some (nI (v + 16 * a + 2048 * b), M) := by
  unfold xX0_of
  rw [e_shl (by omega) (by omega), e_shl (by omega) (by omega), e_or, n_or 4 (by omega) (by omega), e_or, n_or 11 (by omega) (by omega), show v + a * 2 ^ 4 + b * 2 ^ 11 = v + 16 * a + 2048 * b by omega]
theorem x_withCpu {w u : Nat} {M : j_M} (hw : w < 33554432) (hu : u < 64) : xX0_withCpu (nI w) (nI u) M = some (nI (w + 33554432 * u), M) := by
  unfold xX0_withCpu
  rw [e_shl (by omega) (by omega), e_or, n_or 25 (by omega) (by omega), show w + u * 2 ^ 25 = w + 33554432 * u by omega]
def CK (M M1 : j_M) (c cd : Nat) : Prop := M1 28 7 = nI (c + 1) ∧ (∀ x, x ≠ 28 → x ≠ 30 → M1 x = M x) ∧ (∀ j, j ≠ 7 → M1 28 j = M 28 j) ∧ (c < 200 → M1 30 c = nI cd) ∧ (∀ j, j ≠ c → M1 30 j = M 30 j)
theorem x_44 {M M1 : j_M} {u v a b c : Nat} (he : xX8_expect (nI 3) M = some M1) (hc : M1 28 7 = nI c) (hc2 : c < 1000000000) (hv : v < 16) (ha : a < 128) (hb : b < 16384) (hu : u < 64) : ∃ M', xX8_readAct_44 (nI u) (nI v) (nI a) (nI b) M = some M' ∧ CK M1 M' c (v + 16 * a + 2048 * b + 33554432 * u) := by
  unfold xX8_readAct_44 xX8_readAct_79
  rw [he, e_obv2, hc, e_oli2, e_oli2]
  simp (disch := omega) only [e_le]
  by_cases d : 200 ≤ c
  · rw [if_pos d, e_oml2, e_add]
    exact ⟨_, rfl, mw_at (by omega), fun x h1 h2 => mw_oth h1, fun j hj => mw_ne hj, fun q => by omega, fun j hj => by rw [mw_oth (by omega)]⟩
  · rw [if_neg d, e_oli2, x_of hv ha hb, e_obi2, x_withCpu (by omega) hu, e_obi2, e_gd (by omega) (by omega), e_ix2 (by omega), e_oml2, mw_oth (by omega), hc, e_oli2, e_oml2, e_add]
    refine ⟨_, rfl, mw_at (by omega), fun x h1 h2 => ?_, fun j hj => ?_, fun _ => ?_, fun j hj => ?_⟩
    · rw [mw_oth h1, mw_oth h2]
    · rw [mw_ne hj, mw_oth (by omega)]
    · rw [mw_oth (by omega), mw_at (by omega)]
    · rw [mw_oth (by omega), mw_ne hj]
def wlo (v : Nat) : Nat := [0, 0, 0, 0, 1, 1, 0, 1, 1, 1, 1, 1, 0].getD v 0
def whi (v : Nat) : Nat := [0, 7, 7, 7, 9, 9, 7, 50, 50, 99, 60, 60, 3].getD v 0
/-- 0: no second number -/
def wse (v : Nat) : Nat := [0, 0, 10000, 10000, 0, 0, 0, 0, 0, 0, 0, 3, 0].getD v 0
def CST (M : j_M) : Prop := ∀ j, j < 13 → M 300 j = s_low.getD j 0 ∧ M 301 j = s_high.getD j 0 ∧ M 302 j = s_sec.getD j 0
theorem w_tab : ∀ j, j < 13 → s_low.getD j 0 = nI (wlo j) ∧ s_high.getD j 0 = nI (whi j) ∧ s_sec.getD j 0 = oI (wse j) ∧ whi j < 100 ∧ wlo j < 100 ∧ wse j ≤ 10000 := by decide +kernel
/-- what an act leaves alone -/
def AK (M M' : j_M) (c : Nat) : Prop := M' 28 7 = nI (c + 1) ∧ (∀ x, x ≠ 28 → x ≠ 30 → M' x = M x) ∧ (∀ j, j < 9 → j ≠ 5 → j ≠ 6 → j ≠ 7 → M' 28 j = M 28 j) ∧ (∀ j, j ≠ c → M' 30 j = M 30 j)
theorem CS_c {M M' : j_M} {T : Nat → Nat} {n p c cd : Nat} (h : CS M T n p) (hk : CK M M' c cd) : CS M' T n p :=
  ⟨⟨h.1.1, by rw [hk.2.2.1 4 (by omega)]; exact h.1.2.1, fun i hi => by rw [hk.2.1 29 (by omega) (by omega)]; exact h.1.2.2 i hi⟩, by rw [hk.2.2.1 9 (by omega)]; exact h.2.1, by rw [hk.2.2.1 5 (by omega)]; exact h.2.2.1, h.2.2.2.1, by rw [hk.2.2.1 6 (by omega)]; exact h.2.2.2.2⟩
theorem CF_c {M M' : j_M} {f pl c cd : Nat} (h : CF M f pl) (hk : CK M M' c cd) : CF M' f pl :=
  ⟨by rw [hk.2.2.1 5 (by omega)]; exact h.1, by rw [hk.2.2.1 6 (by omega)]; exact h.2⟩
theorem AK_c {M M1 M' : j_M} {c cd : Nat} (h : FK M M1) (hk : CK M1 M' c cd) : AK M M' c :=
  ⟨hk.1, fun x a b => by rw [hk.2.1 x a b, h.1 x a], fun j a b d e => by rw [hk.2.2.1 j e, h.2 j a b d], fun j a => by rw [hk.2.2.2.2 j a, h.1 30 (by omega)]⟩
/-- behind a fault -/
theorem x_44F {M : j_M} {f pl u v a b c : Nat} (h : CF M f pl) (hf : f ≠ 0) (hf2 : f < 10) (hc : M 28 7 = nI c) (hc2 : c < 1000000000) (hv : v < 16) (ha : a < 128) (hb : b < 16384) (hu : u < 64) : ∃ M', xX8_readAct_44 (nI u) (nI v) (nI a) (nI b) M = some M' ∧ CF M' f pl ∧ AK M M' c := by
  obtain ⟨M1, e1, k1⟩ := x_44 (u := u) (v := v) (a := a) (b := b) (x_expectF h hf hf2) hc hc2 hv ha hb hu
  exact ⟨M1, e1, CF_c h k1, AK_c FK_r k1⟩
theorem x_44S {M : j_M} {T : Nat → Nat} {n p k v' pl nx u v a b c : Nat} (h : CS M T n p) (hx : LEX T n p k v' pl nx) (hc : M 28 7 = nI c) (hc2 : c < 1000000000) (hv : v < 16) (ha : a < 128) (hb : b < 16384) (hu : u < 64) : ∃ M', xX8_readAct_44 (nI u) (nI v) (nI a) (nI b) M = some M' ∧ AK M M' c ∧ (k = 3 → CS M' T n nx ∧ (c < 200 → M' 30 c = nI (v + 16 * a + 2048 * b + 33554432 * u))) ∧ (k ≠ 3 → CF M' 1 pl) := by
  obtain ⟨M1, e1, f1, g1, g2⟩ := x_expect (K := 3) h hx (by omega)
  obtain ⟨M2, e2, k2⟩ := x_44 (u := u) (v := v) (a := a) (b := b) e1 (by rw [f1.2 7 (by omega) (by omega) (by omega), hc]) hc2 hv ha hb hu
  exact ⟨M2, e2, AK_c f1 k2, fun q => ⟨CS_c (g1 q) k2, k2.2.2.2.1⟩, fun q => CF_c (g2 q) k2⟩
theorem AK_f {M M1 M' : j_M} {c : Nat} (h : FK M M1) (hk : AK M1 M' c) : AK M M' c :=
  ⟨hk.1, fun x a b => by rw [hk.2.1 x a b, h.1 x a], fun j a b d e => by rw [hk.2.2.1 j a b d e, h.2 j a b d], fun j a => by rw [hk.2.2.2 j a, h.1 30 (by omega)]⟩
/-- an act of one number -/
theorem x_act1 {M : j_M} {T : Nat → Nat} {n p v u c k1 v1 pl1 n1 k2 v2 pl2 n2 : Nat} (h : CS M T n p) (hC : CST M) (h11 : M 28 11 = nI v) (hv : v < 13) (hse : wse v = 0) (hu : u < 64) (hc : M 28 7 = nI c) (hc2 : c < 1000000000) (hx1 : LEX T n p k1 v1 pl1 n1) (hx2 : LEX T n n1 k2 v2 pl2 n2) : ∃ M', xX8_readAct (nI u) M = some M' ∧ AK M M' c ∧ (k1 = 2 → wlo v ≤ v1 → v1 ≤ whi v → (k2 = 3 → CS M' T n n2 ∧ (c < 200 → M' 30 c = nI (v + 16 * v1 + 2048 * 0 + 33554432 * u))) ∧ (k2 ≠ 3 → CF M' 1 pl2)) ∧ (k1 = 2 → ¬ (wlo v ≤ v1 ∧ v1 ≤ whi v) → CF M' 2 pl1) ∧ (k1 ≠ 2 → CF M' 1 pl1) := by
  obtain ⟨t1, t2, t3, t4, t5, t6⟩ := w_tab v hv
  have hCv := hC v hv
  obtain ⟨z, M1, e1, f1, g1, g2, g3⟩ := x_number (lo := wlo v) (hi := whi v) h hx1 (by omega) (by omega)
  have hc1 : M1 28 7 = nI c := by rw [f1.2 7 (by omega) (by omega) (by omega), hc]
  have st : xX8_readAct (nI u) M = xX8_readAct_44 (nI u) (nI v) (nI z) (nI 0) M1 := by
    unfold xX8_readAct
    rw [h11, e_oli2, e_gd (by omega) (by omega), e_ix2 (by omega), hCv.1, t1, e_oli2, e_gd (by omega) (by omega), hCv.2.1, t2, e_oli2, e1, e_obi2, e_gd (by omega) (by omega), f1.1 302 (by omega), hCv.2.2, t3, hse, oI_0, e_oli2, if_pos rfl]
  rw [st]
  by_cases c1 : k1 = 2
  · by_cases c2 : wlo v ≤ v1 ∧ v1 ≤ whi v
    · obtain ⟨rfl, q⟩ := g1 c1 c2.1 c2.2
      obtain ⟨M2, e2, a2, b1, b2⟩ := x_44S (u := u) (v := v) (a := z) (b := 0) q hx2 hc1 hc2 (by omega) (by omega) (by omega) hu
      exact ⟨M2, e2, AK_f f1 a2, fun _ _ _ => ⟨b1, b2⟩, fun _ q => absurd c2 q, fun q => absurd c1 q⟩
    · obtain ⟨rfl, q⟩ := g2 c1 c2
      obtain ⟨M2, e2, q2, a2⟩ := x_44F (u := u) (v := v) (a := wlo v) (b := 0) q (by omega) (by omega) hc1 hc2 (by omega) (by omega) (by omega) hu
      exact ⟨M2, e2, AK_f f1 a2, fun _ x y => absurd ⟨x, y⟩ c2, fun _ _ => q2, fun q => absurd c1 q⟩
  · obtain ⟨rfl, q⟩ := g3 c1
    obtain ⟨M2, e2, q2, a2⟩ := x_44F (u := u) (v := v) (a := wlo v) (b := 0) q (by omega) (by omega) hc1 hc2 (by omega) (by omega) (by omega) hu
    exact ⟨M2, e2, AK_f f1 a2, fun q => absurd q c1, fun q => absurd q c1, fun _ => q2⟩
