/-! ===== run ===== -/
theorem OPN_le {F G : j_M → Option (Int32 × j_M)} {S : a_S} {b b' : Nat} (h : OPN F G S b) (h1 : b ≤ b') (h2 : b' ≤ 3000000) : OPN F G S b' := by
  obtain ⟨v, S', ok, hF, hG⟩ := h
  exact ⟨v, S', OKS_le ok h1 h2, hF, hG⟩
theorem OKS_pl {S : a_S} {b : Nat} (h : OKS S b) (hp : S 7363 0 < S 7362 0) : OKS (sw S 7363 0 (S 7363 0 + 1)) b := by
  have hh := h.2.2.2
  refine ⟨INV_scr h.1 (fun r i _ _ c _ => sw_r c), ?_, TRC_c h.2.2.1 (fun i => sw_r (by omega)), ?_, ?_, hh.2.2⟩
  · obtain ⟨p1, p2, p3, p4, p5⟩ := h.2.1
    refine ⟨fun c hc => ?_, fun c k hc hk => ?_, ?_, ?_, fun p hp => ?_⟩
    · rw [sw_r (by omega), sw_r (by omega), sw_r (by omega)]; exact p1 c hc
    · rw [sw_r (by omega)] at hk
      have := p2 c k hc hk
      simp (disch := omega) only [sw_r]
      exact this
    · rw [sw_r (by omega)]; exact p3
    · rw [sw_at, sw_r (by omega)]; omega
    · rw [sw_r (by omega)] at hp
      have := p5 p hp
      simp (disch := omega) only [sw_r]
      exact this
  · rw [sw_r (by omega)]; exact hh.1
  · rw [sw_r (by omega), sw_r (by omega)]; exact hh.2.1
theorem y_line {N : j_M} {S : a_S} {b : Nat} (h : OKS S b) (hs : SCP N 1 S) (hp : S 7363 0 < S 7362 0) : xX6_runLine 1 (XS N 2 S) = xl_F (nI (pcv (fun j => S 7364 (4 * S 7363 0 + j)))) (nI (if S 7364 (4 * S 7363 0) ≤ 8 then S 7364 (4 * S 7363 0 + 2) else S 7364 (4 * S 7363 0 + 1))) (nI (S 7364 (4 * S 7363 0) - 2)) (XS (mw N 22 6 (nI (S 7363 0 + 1))) 2 (sw S 7363 0 (S 7363 0 + 1))) := by
  have h24 := h.2.1.2.2.1
  have ok := h.2.1.2.2.2.2 (S 7363 0) hp
  have e6 : N 22 6 = nI (S 7363 0) := hs.2.2.2.1
  have e27 : N 27 (S 7363 0) = nI (pcv (fun j => S 7364 (4 * S 7363 0 + j))) := hs.2.2.2.2.2 (S 7363 0) hp
  have fi := fun M => p_fi (M := M) ok
  have kw := fun M => p_kw (M := M) ok
  simp only [Nat.add_zero] at fi kw
  rw [xs_scr (by omega)]
  unfold xX6_runLine xl_F
  simp (disch := omega) only [e_gd, e_ix, e_oli2, e_oml2, e_obi2, e_obv2, e_add, e_mul, e_sub, e_eq, e_lt, e_le, e_eq0, e_0eq, e_lt0, e_0lt, e_le0, e_0le, e_m1, e_m1', e_m1lt, Nat.add_assoc, Nat.not_lt_zero, Nat.le_zero_eq, Nat.reduceAdd, xs_o, e6, e27, xs_wo, fi, kw]
theorem run_l : ∀ (m n k l : Nat) (S : a_S) (b : Nat), OKS S b → b + 100 * m ≤ 3000000 → k + m = l → l ≤ 24 → ∃ c S', OKS S' (b + 100 * m) ∧ c ≤ m ∧ (∀ N s, SCP N 1 S → ∃ N', xX11_run_17 (n + m + 1) (nI l) (nI s) (nI k) (XS N 2 S) = some (nI (s + c), XS N' 2 S') ∧ SCP N' 1 S' ∧ sce 1 N N') ∧ (∀ N s, ∃ x, xX12_run_16 (n + m + 1) (nI l) (nI s) (nI k) (RS N S) = some (nI (s + c), RS (w4 N x) S'))
  | 0, n, k, l, S, b, h, hb, hk, hl => by
    refine ⟨0, S, h, Nat.le_refl _, fun N s hs => ⟨N, ?_, hs, sce_r⟩, fun N s => ⟨N 204, ?_⟩⟩
    · rw [show n + 0 + 1 = n + 1 from rfl, xX11_run_17.eq_2]
      simp (disch := omega) only [e_gd, e_ix, e_oli2, e_oml2, e_obi2, e_obv2, e_add, e_mul, e_sub, e_eq, e_lt, e_le, e_eq0, e_0eq, e_lt0, e_0lt, e_le0, e_0le, e_m1, e_m1', e_m1lt, Nat.add_assoc, Nat.not_lt_zero, Nat.le_zero_eq, if_pos]
      rfl
    · rw [show n + 0 + 1 = n + 1 from rfl, xX12_run_16.eq_2, w4_id]
      simp (disch := omega) only [e_gd, e_ix, e_oli2, e_oml2, e_obi2, e_obv2, e_add, e_mul, e_sub, e_eq, e_lt, e_le, e_eq0, e_0eq, e_lt0, e_0lt, e_le0, e_0le, e_m1, e_m1', e_m1lt, Nat.add_assoc, Nat.not_lt_zero, Nat.le_zero_eq, if_pos]
      rfl
  | m + 1, n, k, l, S, b, h, hb, hk, hl => by
    have h24 := h.2.1.2.2.1
    have hpp := h.2.1.2.2.2.1
    by_cases hp : S 7363 0 < S 7362 0
    · have h1 := OKS_pl h hp
      have e4 : ∀ i, sw S 7363 0 (S 7363 0 + 1) 7364 i = S 7364 i := fun i => sw_r (by omega)
      have op := ln_op (p := S 7363 0) h1 (by omega) (by rw [sw_r (by omega)]; exact hp)
      simp only [e4] at op
      obtain ⟨v, S1, ok1, hF, hG⟩ := op
      obtain ⟨c, S', ok', hc, hF', hG'⟩ := run_l m n (k + 1) l S1 (b + 100) ok1 (by omega) (by omega) hl
      refine ⟨(if v = 0 then 0 else 1) + c, S', OKS_le ok' (by omega) hb, by split <;> omega, fun N s hs => ?_, fun N s => ?_⟩
      · obtain ⟨N1, e1, s1, q1⟩ := hF (mw N 22 6 (nI (S 7363 0 + 1))) (SCP_one hs (Or.inl ⟨rfl, rfl, rfl⟩))
        have e5 : N 22 5 = nI (S 7362 0) := hs.2.2.1
        have e6 : N 22 6 = nI (S 7363 0) := hs.2.2.2.1
        have key : ∀ z, z = (if v = 0 then 0 else 1) → ∃ N', xX11_run_17 (n + m + 1) (nI l) (nI (s + z)) (nI (k + 1)) (XS N1 2 S1) = some (nI (s + ((if v = 0 then 0 else 1) + c)), XS N' 2 S') ∧ SCP N' 1 S' ∧ sce 1 N1 N' := by
          intro z hz
          obtain ⟨N2, e2, s2, q2⟩ := hF' N1 (s + z) s1
          refine ⟨N2, ?_, s2, q2⟩
          rw [e2, ← hz, Nat.add_assoc]
        have lhs : xX11_run_17 (n + (m + 1) + 1) (nI l) (nI s) (nI k) (XS N 2 S) = (if v = 0 then xX11_run_17 (n + m + 1) (nI l) (nI s) (nI (k + 1)) (XS N1 2 S1) else xX11_run_17 (n + m + 1) (nI l) (nI (s + 1)) (nI (k + 1)) (XS N1 2 S1)) := by
          rw [show n + (m + 1) + 1 = (n + m + 1) + 1 by omega, xX11_run_17.eq_2, y_line h hs hp, e1, e_obi2]
          simp (disch := omega) only [e_gd, e_ix, e_oli2, e_oml2, e_obi2, e_obv2, e_add, e_mul, e_sub, e_eq, e_lt, e_le, e_eq0, e_0eq, e_lt0, e_0lt, e_le0, e_0le, e_m1, e_m1', e_m1lt, Nat.add_assoc, Nat.not_lt_zero, Nat.le_zero_eq, xs_o, e5, e6]
          rw [if_neg (by omega), if_neg (by omega)]
        rw [lhs]
        by_cases v0 : v = 0
        · obtain ⟨N2, e2, s2, q2⟩ := key 0 (by rw [if_pos v0])
          exact ⟨N2, by rw [if_pos v0, ← e2]; rfl, s2, sce_t (sce_w (by omega)) (sce_t q1 q2)⟩
        · obtain ⟨N2, e2, s2, q2⟩ := key 1 (by rw [if_neg v0])
          exact ⟨N2, by rw [if_neg v0, ← e2], s2, sce_t (sce_w (by omega)) (sce_t q1 q2)⟩
      · obtain ⟨x1, e1⟩ := hG N
        have lhs : xX12_run_16 (n + (m + 1) + 1) (nI l) (nI s) (nI k) (RS N S) = (if v = 0 then xX12_run_16 (n + m + 1) (nI l) (nI (s + 0)) (nI (k + 1)) (RS (w4 N x1) S1) else xX12_run_16 (n + m + 1) (nI l) (nI (s + 1)) (nI (k + 1)) (RS (w4 N x1) S1)) := by
          rw [show n + (m + 1) + 1 = (n + m + 1) + 1 by omega, xX12_run_16.eq_2]
          unfold xX12_run_83
          simp (disch := omega) only [e_gd, e_ix, e_oli2, e_oml2, e_obi2, e_obv2, e_add, e_mul, e_sub, e_eq, e_lt, e_le, e_eq0, e_0eq, e_lt0, e_0lt, e_le0, e_0le, e_m1, e_m1', e_m1lt, Nat.add_assoc, Nat.not_lt_zero, Nat.le_zero_eq, sr_1, sr_14, sr_70, sr_126, sr_182, sr_238, sr_244, sr_292, sr_298, sr_304, sr_310, sr_316, sr_358, sr_400, sr_442, sr_484, sr_526, sr_532, sr_538, so_586, sr_586, sr_2746, sr_2752, sr_3112, sr_3118, sr_3124, sr_3130, sr_6730, sr_6736, sr_6766, sr_6814, sr_6961, sr_6962, sr_7362, sr_7363, sr_7364, su_6961, su_7362, su_7363, st_1, st_14, st_70, st_126, st_182, st_238, st_244, sm_292, so_292, st_292, st_298, st_304, st_310, st_316, st_358, st_400, st_442, st_484, st_526, st_532, sm_538, so_538, st_538, sm_586, sn_586, sp_586, st_586, st_2746, st_2752, st_3112, st_3118, st_3124, st_3130, st_6730, st_6736, st_6766, st_6814, st_6961, st_6962, st_7362, st_7363, st_7364, sv_6961, sv_7362, sv_7363, e1]
          rw [if_neg (by omega), if_neg (by omega)]
        rw [lhs]
        by_cases v0 : v = 0
        · obtain ⟨x2, e2⟩ := hG' (w4 N x1) (s + 0)
          rw [w4_4] at e2
          exact ⟨x2, by rw [if_pos v0, e2, if_pos v0, Nat.add_assoc]⟩
        · obtain ⟨x2, e2⟩ := hG' (w4 N x1) (s + 1)
          rw [w4_4] at e2
          exact ⟨x2, by rw [if_neg v0, e2, if_neg v0, Nat.add_assoc]⟩
    · refine ⟨0, S, OKS_le h (by omega) hb, by omega, fun N s hs => ⟨N, ?_, hs, sce_r⟩, fun N s => ⟨N 204, ?_⟩⟩
      · have e5 : N 22 5 = nI (S 7362 0) := hs.2.2.1
        have e6 : N 22 6 = nI (S 7363 0) := hs.2.2.2.1
        rw [show n + (m + 1) + 1 = (n + m + 1) + 1 by omega, xX11_run_17.eq_2]
        simp (disch := omega) only [e_gd, e_ix, e_oli2, e_oml2, e_obi2, e_obv2, e_add, e_mul, e_sub, e_eq, e_lt, e_le, e_eq0, e_0eq, e_lt0, e_0lt, e_le0, e_0le, e_m1, e_m1', e_m1lt, Nat.add_assoc, Nat.not_lt_zero, Nat.le_zero_eq, xs_o, e5, e6]
        rw [if_neg (by omega), if_pos (by omega), Nat.add_zero]
      · rw [show n + (m + 1) + 1 = (n + m + 1) + 1 by omega, xX12_run_16.eq_2, w4_id]
        simp (disch := omega) only [e_gd, e_ix, e_oli2, e_oml2, e_obi2, e_obv2, e_add, e_mul, e_sub, e_eq, e_lt, e_le, e_eq0, e_0eq, e_lt0, e_0lt, e_le0, e_0le, e_m1, e_m1', e_m1lt, Nat.add_assoc, Nat.not_lt_zero, Nat.le_zero_eq, sr_1, sr_14, sr_70, sr_126, sr_182, sr_238, sr_244, sr_292, sr_298, sr_304, sr_310, sr_316, sr_358, sr_400, sr_442, sr_484, sr_526, sr_532, sr_538, so_586, sr_586, sr_2746, sr_2752, sr_3112, sr_3118, sr_3124, sr_3130, sr_6730, sr_6736, sr_6766, sr_6814, sr_6961, sr_6962, sr_7362, sr_7363, sr_7364, su_6961, su_7362, su_7363]
        rw [if_neg (by omega), if_pos (by omega), Nat.add_zero]
theorem op_run {S : a_S} {b : Nat} (a : Int32) (h : OKS S b) (hb : b + 5000 ≤ 3000000) : OPN (xX11_run a) (xX12_run a) S (b + 5000) := by
  have hno : ∀ (_ : ∀ N : j_M, xX11_run a (XS N 2 S) = some (-1, XS N 2 S)) (_ : ∀ N : j_M, xX12_run a (RS N S) = some (-1, RS N S)), OPN (xX11_run a) (xX12_run a) S (b + 5000) := fun h1 h2 => OPN_q (OKS_le h (by omega) hb) (-1) (fun N _ => h1 N) h2
  rcases i_cases a with ⟨k, hk, rfl⟩ | ha
  · by_cases hr : 1 ≤ k ∧ k ≤ 24
    · obtain ⟨c, S', ok', hc, hF, hG⟩ := run_l k (1000000 - (k + 1)) 0 k S b h (by omega) (by omega) hr.2
      rw [show 1000000 - (k + 1) + k + 1 = fu by unfold fu; omega] at hF hG
      refine ⟨nI (0 + c), S', OKS_le ok' (by omega) hb, fun N hs => ?_, fun N => ?_⟩
      · obtain ⟨N', e, s, q⟩ := hF N 0 hs
        refine ⟨N', ?_, s, q⟩
        unfold xX11_run
        rw [f_lt (by omega) (by omega), if_neg (by omega), f_le (by omega) (by omega), if_pos hr.2, e]
      · obtain ⟨x, e⟩ := hG N 0
        refine ⟨x, ?_⟩
        unfold xX12_run
        rw [m_isIn _ hk (by omega) (by omega), if_pos hr, e_obi2, if_neg (by decide), e]
    · refine hno (fun N => ?_) (fun N => ?_)
      · unfold xX11_run
        simp (disch := omega) only [e_gd, e_ix, e_oli2, e_oml2, e_obi2, e_obv2, e_add, e_mul, e_sub, e_eq, e_lt, e_le, e_eq0, e_0eq, e_lt0, e_0lt, e_le0, e_0le, e_m1, e_m1', e_m1lt, Nat.add_assoc, Nat.not_lt_zero, Nat.le_zero_eq]
        by_cases h1 : k < 1
        · rw [if_pos h1]
        · rw [if_neg h1, if_neg (by omega)]
      · unfold xX12_run
        rw [m_isIn _ hk (by omega) (by omega), if_neg hr, e_obi2, if_pos (by decide)]
  · refine hno (fun N => ?_) (fun N => ?_)
    · unfold xX11_run
      simp (disch := omega) only [neg_lt ha, if_true]
    · unfold xX12_run
      rw [q_isInN ha (by omega), e_obi2, if_pos (by decide)]
