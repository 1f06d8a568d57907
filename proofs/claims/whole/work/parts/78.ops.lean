/-! ===== any int as an argument ===== -/
theorem i_cases (a : Int32) : (∃ n, n < 2147483648 ∧ a = nI n) ∨ a < 0 := by
  by_cases h : a < 0
  · exact Or.inr h
  · left
    have h0 : (0 : Int32).toInt = 0 := by decide
    have h1 : 0 ≤ a.toInt := by
      rw [Int32.lt_iff_toInt_lt, h0] at h
      omega
    have h2 : a.toInt < 2147483648 := by
      have := Int32.toInt_lt a
      omega
    refine ⟨a.toInt.toNat, by omega, ?_⟩
    apply Int32.toInt_inj.1
    rw [nI_toInt (by omega)]
    omega
theorem neg_i {a : Int32} (h : a < 0) : a.toInt < 0 := by
  have h0 : (0 : Int32).toInt = 0 := by decide
  rw [Int32.lt_iff_toInt_lt, h0] at h
  exact h
theorem neg_lt {a : Int32} {n : Nat} (h : a < 0) (hn : n < 2147483648) : (a < nI n) = True := by
  apply eq_true
  have := neg_i h
  rw [Int32.lt_iff_toInt_lt, nI_toInt hn]
  omega
theorem neg_le {a : Int32} {n : Nat} (h : a < 0) (hn : n < 2147483648) : (nI n ≤ a) = False := by
  apply eq_false
  have := neg_i h
  rw [Int32.le_iff_toInt_le, nI_toInt hn]
  omega
theorem neg_gt {a : Int32} {n : Nat} (h : a < 0) (hn : n < 2147483648) : (nI n < a) = False := by
  apply eq_false
  have := neg_i h
  rw [Int32.lt_iff_toInt_lt, nI_toInt hn]
  omega
theorem neg_leq {a : Int32} {n : Nat} (h : a < 0) (hn : n < 2147483648) : (a ≤ nI n) = True := by
  apply eq_true
  have := neg_i h
  rw [Int32.le_iff_toInt_le, nI_toInt hn]
  omega
theorem neg_eq {a : Int32} {n : Nat} (h : a < 0) (hn : n < 2147483648) : (a = nI n) = False := by
  apply eq_false
  intro e
  have := neg_i h
  rw [e, nI_toInt hn] at this
  omega
theorem neg_0 {a : Int32} (h : a < 0) : (a < 0) = True := eq_true h
theorem neg_e0 {a : Int32} (h : a < 0) : (a = 0) = False := neg_eq (n := 0) h (by omega)
theorem neg_g0 {a : Int32} (h : a < 0) : ((0 : Int32) ≤ a) = False := neg_le (n := 0) h (by omega)
theorem nI_any (a : Int32) : ∃ n, a = nI n := by
  refine ⟨a.toBitVec.toNat, ?_⟩
  apply Int32.toBitVec_inj.1
  show a.toBitVec = BitVec.ofNat 32 a.toBitVec.toNat
  simp
/-! ===== what can be asked for ===== -/
theorem x_isLine {l : Nat} {M : j_M} (h : l < 2147483648) : xX11_isLine (nI l) M = some (if l < 8 then nI 1 else nI 0, M) := by
  unfold xX11_isLine
  simp (disch := omega) only [e_gd, e_ix, e_oli2, e_oml2, e_obi2, e_obv2, e_add, e_mul, e_sub, e_eq, e_lt, e_le, e_eq0, e_0eq, e_lt0, e_0lt, e_le0, e_0le, e_m1, e_m1', e_m1lt, Nat.add_assoc, Nat.not_lt_zero, Nat.le_zero_eq, if_false]
  by_cases h8 : l < 8
  · rw [if_neg (by omega), if_pos h8]
  · rw [if_pos (by omega), if_neg h8]
theorem x_isLineN {a : Int32} {M : j_M} (h : a < 0) : xX11_isLine a M = some (nI 0, M) := by
  unfold xX11_isLine
  rw [if_pos h]
theorem q_isLine {l : Nat} {M : j_M} (h : l < 2147483648) : xX12_isLine (nI l) M = some (if l < 8 then nI 1 else nI 0, M) := by
  unfold xX12_isLine
  rw [m_isIn M h (by omega) (by omega), e_obi2]
  by_cases h8 : l < 8
  · rw [if_pos (by omega), if_pos h8, e_gz1]
  · rw [if_neg (by omega), if_neg h8, e_gz0]
theorem q_isInN {a : Int32} {b c : Nat} {M : j_M} (h : a < 0) (hb : b < 2147483648) : xX12_isIn a (nI b) (nI c) M = some (nI 0, M) := by
  unfold xX12_isIn
  simp (disch := omega) only [neg_lt h, if_true]
theorem q_isLineN {a : Int32} {M : j_M} (h : a < 0) : xX12_isLine a M = some (nI 0, M) := by
  unfold xX12_isLine
  rw [q_isInN h (by omega), e_obi2, e_gz0]
theorem x_isCpu {N : j_M} {t c : Nat} {S : a_S} (h : RG S) (hc : c < 2147483648) : xX1_isCpu t (nI c) (XS N t S) = some (if c < S 1 0 then nI 1 else nI 0, XS N t S) := by
  have hn := g_n h
  unfold xX1_isCpu
  simp (disch := omega) only [e_gd, e_ix, e_oli2, e_oml2, e_obi2, e_obv2, e_add, e_mul, e_sub, e_eq, e_lt, e_le, e_eq0, e_0eq, e_lt0, e_0lt, e_le0, e_0le, e_m1, e_m1', e_m1lt, Nat.add_assoc, Nat.not_lt_zero, Nat.le_zero_eq, Nat.reduceAdd, xr_4, xr_5, xr_6, xr_7, xr_13, xr_14, xr_3, xr_10, xr_11, xr_12, xr_15, xr_16, xr_17, xr_18, xr_19, xr_0_8, xr_0_9, xr_0_10, xr_0_11, xr_0_12, xr_0_13, xr_0_14, xr_8_11, xr_8_12, xr_8_13, xr_8_14, xr_h, xr_e, xr_u, xr_m, xr_2, xr_9, if_false]
  by_cases h8 : c < S 1 0
  · rw [if_neg (by omega), if_pos h8]
  · rw [if_pos (by omega), if_neg h8]
theorem x_isCpuN {a : Int32} {t : Nat} {M : j_M} (h : a < 0) : xX1_isCpu t a M = some (nI 0, M) := by
  unfold xX1_isCpu
  rw [if_pos h]
theorem q_isCpuN {N : j_M} {S : a_S} {a : Int32} (h : RG S) (h1 : 1 ≤ S 1 0) (ha : a < 0) : xX12_isCpu a (RS N S) = some (nI 0, RS N S) := by
  have hn := g_n h
  unfold xX12_isCpu
  simp (disch := omega) only [e_gd, e_ix, e_oli2, e_oml2, e_obi2, e_obv2, e_add, e_mul, e_sub, e_eq, e_lt, e_le, e_eq0, e_0eq, e_lt0, e_0lt, e_le0, e_0le, e_m1, e_m1', e_m1lt, Nat.add_assoc, Nat.not_lt_zero, Nat.le_zero_eq, sr_1, sr_14, sr_70, sr_126, sr_182, sr_238, sr_244, sr_292, sr_298, sr_304, sr_310, sr_316, sr_358, sr_400, sr_442, sr_484, sr_526, sr_532, sr_538, so_586, sr_586, sr_2746, sr_2752, sr_3112, sr_3118, sr_3124, sr_3130, sr_6730, sr_6736, sr_6766, sr_6814, sr_6961, sr_6962, sr_7362, sr_7363, sr_7364, su_6961, su_7362, su_7363]
  rw [q_isInN ha (by omega), e_obi2, e_gz0]
theorem n10 : (nI 1 = (0 : Int32)) = False := eq_false (by decide)
theorem n00 : (nI 0 = (0 : Int32)) = True := eq_true (by decide)
def CAN (S : a_S) (a b d : Int32) : Prop := ∃ c l v, a = nI c ∧ c < S 1 0 ∧ b = nI l ∧ l < 8 ∧ d = nI v ∧ v < 10000 ∧ S 292 c = 0
theorem can_ok {N N' : j_M} {S : a_S} {c l v : Nat} (hi : INV S z0) (hc : c < S 1 0) (hl : l < 8) (hv : v < 10000) (h0 : S 292 c = 0) : xX1_mayBegin 2 (nI c) (nI l) (nI v) (XS N 2 S) = some (nI 1, XS N 2 S) ∧ xX12_can (nI c) (nI l) (nI v) (RS N' S) = some (nI 1, RS N' S) := by
  have hn := g_n hi.1
  have hm0 := msv_0 hi.2.2.2.2.2.2.2.1 (show c < 6 by omega)
  constructor
  · unfold xX1_mayBegin
    rw [x_isCpu hi.1 (by omega), if_pos hc, e_obi2, if_neg (by decide), x_isLine (by omega), if_pos hl, e_obi2, if_neg (by decide), x_missOf (by omega), e_obi2, hm0.2 h0]
    simp (disch := omega) only [e_gd, e_ix, e_oli2, e_oml2, e_obi2, e_obv2, e_add, e_mul, e_sub, e_eq, e_lt, e_le, e_eq0, e_0eq, e_lt0, e_0lt, e_le0, e_0le, e_m1, e_m1', e_m1lt, Nat.add_assoc, Nat.not_lt_zero, Nat.le_zero_eq, if_neg, if_true, if_false]
  · unfold xX12_can
    rw [r_isCpu hi.1 (by omega) (by omega), if_pos hc, e_obi2, if_neg (by decide), q_isLine (by omega), if_pos hl, e_obi2, if_neg (by decide)]
    simp (disch := omega) only [e_gd, e_ix, e_oli2, e_oml2, e_obi2, e_obv2, e_add, e_mul, e_sub, e_eq, e_lt, e_le, e_eq0, e_0eq, e_lt0, e_0lt, e_le0, e_0le, e_m1, e_m1', e_m1lt, Nat.add_assoc, Nat.not_lt_zero, Nat.le_zero_eq, sr_1, sr_14, sr_70, sr_126, sr_182, sr_238, sr_244, sr_292, sr_298, sr_304, sr_310, sr_316, sr_358, sr_400, sr_442, sr_484, sr_526, sr_532, sr_538, so_586, sr_586, sr_2746, sr_2752, sr_3112, sr_3118, sr_3124, sr_3130, sr_6730, sr_6736, sr_6766, sr_6814, sr_6961, sr_6962, sr_7362, sr_7363, sr_7364, su_6961, su_7362, su_7363, h0, oI_0, if_true]
    rw [m_isIn _ (by omega) (by omega) (by omega), if_pos (by omega), e_obi2, if_neg (by decide)]
theorem can_no {N N' : j_M} {S : a_S} {a b d : Int32} (hi : INV S z0) (h : ¬ CAN S a b d) : xX1_mayBegin 2 a b d (XS N 2 S) = some (nI 0, XS N 2 S) ∧ xX12_can a b d (RS N' S) = some (nI 0, RS N' S) := by
  have hn := g_n hi.1
  have sc := hi.2.2.2.2.2.2.1
  unfold SC at sc
  unfold xX1_mayBegin xX12_can
  rcases i_cases a with ⟨c, hc, rfl⟩ | ha
  · rw [x_isCpu hi.1 hc, e_obi2, r_isCpu hi.1 (by omega) hc, e_obi2]
    by_cases hcN : c < S 1 0
    · have g := g_mv hi.1 c
      have hm0 := msv_0 hi.2.2.2.2.2.2.2.1 (show c < 6 by omega)
      rw [if_pos hcN, if_neg (by decide), if_neg (by decide)]
      rcases i_cases b with ⟨l, hl, rfl⟩ | hb
      · rw [x_isLine hl, e_obi2, q_isLine hl, e_obi2]
        by_cases hl8 : l < 8
        · rw [if_pos hl8]
          simp (disch := omega) only [n10, if_false, e_gd, e_ix, e_oli2, e_oml2, e_obi2, e_obv2, e_add, e_mul, e_sub, e_eq, e_lt, e_le, e_eq0, e_0eq, e_lt0, e_0lt, e_le0, e_0le, e_m1, e_m1', e_m1lt, Nat.add_assoc, Nat.not_lt_zero, Nat.le_zero_eq, sr_1, sr_14, sr_70, sr_126, sr_182, sr_238, sr_244, sr_292, sr_298, sr_304, sr_310, sr_316, sr_358, sr_400, sr_442, sr_484, sr_526, sr_532, sr_538, so_586, sr_586, sr_2746, sr_2752, sr_3112, sr_3118, sr_3124, sr_3130, sr_6730, sr_6736, sr_6766, sr_6814, sr_6961, sr_6962, sr_7362, sr_7363, sr_7364, su_6961, su_7362, su_7363, x_missOf (show c < 6 by omega)]
          rw [f_om1 (by omega)]
          rcases i_cases d with ⟨v, hv, rfl⟩ | hd
          · rw [m_isIn _ hv (by omega) (by omega), e_obi2, f_eq0 (msv_lt hi.1)]
            by_cases hv9 : v < 10000
            · have h0 : ¬ S 292 c = 0 := fun e => h ⟨c, l, v, rfl, hcN, rfl, hl8, rfl, hv9, e⟩
              rw [if_neg h0, if_neg (fun e => h0 (hm0.1 e))]
              simp (disch := omega) only [ite_self, and_self]
            · have e1 : ¬ (0 ≤ v ∧ v ≤ 9999) := by omega
              have e2 : 9999 < v := by omega
              rw [if_neg e1]
              simp (disch := omega) only [e_gd, e_ix, e_oli2, e_oml2, e_obi2, e_obv2, e_add, e_mul, e_sub, e_eq, e_lt, e_le, e_eq0, e_0eq, e_lt0, e_0lt, e_le0, e_0le, e_m1, e_m1', e_m1lt, Nat.add_assoc, Nat.not_lt_zero, Nat.le_zero_eq, e2, n00, if_true, if_false, ite_self, and_self]
          · rw [q_isInN hd (by omega), e_obi2]
            simp (disch := omega) only [neg_0 hd, n00, if_true, ite_self, and_self]
        · rw [if_neg hl8, if_pos (by decide), if_pos (by decide)]
          exact ⟨rfl, rfl⟩
      · rw [x_isLineN hb, e_obi2, q_isLineN hb, e_obi2, if_pos (by decide), if_pos (by decide)]
        exact ⟨rfl, rfl⟩
    · rw [if_neg hcN, if_pos (by decide), if_pos (by decide)]
      exact ⟨rfl, rfl⟩
  · rw [x_isCpuN ha, e_obi2, q_isCpuN hi.1 (by omega) ha, e_obi2, if_pos (by decide), if_pos (by decide)]
    exact ⟨rfl, rfl⟩
/-! ===== the contract of a call ===== -/
def OKS (S : a_S) (b : Nat) : Prop := INV S z0 ∧ PR S ∧ TRC S ∧ S 1 5 ≤ 9999 ∧ S 6961 0 ≤ 4010 * S 1 5 + b ∧ b ≤ 3000000
theorem OKS_9 {S : a_S} {b : Nat} (h : OKS S b) : S 6961 0 ≤ 45000000 := by
  have := h.2.2.2
  omega
theorem OKS_le {S : a_S} {b b' : Nat} (h : OKS S b) (h1 : b ≤ b') (h2 : b' ≤ 3000000) : OKS S b' := ⟨h.1, h.2.1, h.2.2.1, h.2.2.2.1, by have := h.2.2.2.2.1; omega, h2⟩
def OPN (F G : j_M → Option (Int32 × j_M)) (S : a_S) (b : Nat) : Prop := ∃ v S', OKS S' b ∧ (∀ N, SCP N 1 S → ∃ N', F (XS N 2 S) = some (v, XS N' 2 S') ∧ SCP N' 1 S' ∧ sce 1 N N') ∧ (∀ N, ∃ x, G (RS N S) = some (v, RS (w4 N x) S'))
/-- nothing changes -/
theorem OPN_q {F G : j_M → Option (Int32 × j_M)} {S : a_S} {b : Nat} (h : OKS S b) (v : Int32) (hF : ∀ N, SCP N 1 S → F (XS N 2 S) = some (v, XS N 2 S)) (hG : ∀ N, G (RS N S) = some (v, RS N S)) : OPN F G S b :=
  ⟨v, S, h, fun N hs => ⟨N, hF N hs, hs, sce_r⟩, fun N => ⟨N 204, by rw [w4_id]; exact hG N⟩⟩
/-- the class's script stays, and the reference's message in hand -/
theorem OPN_s {F G : j_M → Option (Int32 × j_M)} {S S' : a_S} {b : Nat} (h : OKS S' b) (v : Int32) (hst : ∀ r i, stt r i → ¬ (r = 1 ∧ i = 5) → S' r i = S r i) (hF : ∀ N, F (XS N 2 S) = some (v, XS N 2 S')) (hG : ∀ N, G (RS N S) = some (v, RS N S')) : OPN F G S b :=
  ⟨v, S', h, fun N hs => ⟨N, hF N, SCP_c hs hst, sce_r⟩, fun N => ⟨N 204, by rw [w4_id]; exact hG N⟩⟩
theorem OPN_m {F G : j_M → Option (Int32 × j_M)} {S S' : a_S} {b : Nat} (h : OKS S' b) (v : Int32) (hst : ∀ r i, stt r i → ¬ (r = 1 ∧ i = 5) → S' r i = S r i) (hF : ∀ N, F (XS N 2 S) = some (v, XS N 2 S')) (hG : ∀ N, ∃ x, G (RS N S) = some (v, RS (w4 N x) S')) : OPN F G S b :=
  ⟨v, S', h, fun N hs => ⟨N, hF N, SCP_c hs hst, sce_r⟩, hG⟩
theorem OKS_begins {S : a_S} {b c l w v : Nat} (h : OKS S b) (hb : b + 100 ≤ 3000000) (hc : c < S 1 0) (hl : l < 8) (hw1 : 1 ≤ w) (hw : w < 4) (hv : v < 10000) : OKS (a_begins S c l w v) (b + 100) := by
  have hn := g_n h.1.1
  have t1 := t_begins (S := S) (c := c) (l := l) (w := w) (v := v)
  have e5 : a_begins S c l w v 1 5 = S 1 5 := st_begins (Or.inl ⟨rfl, by omega⟩)
  have := h.2.2.2
  exact ⟨INV_begins h.1 (by omega) hl hw1 hw hv hc, PR_c h.2.1 (fun r i hr => st_begins (by unfold stt; omega)), TRC_begins h.2.2.1 h.1.1 (by omega) hl hw hv, by omega, by omega, hb⟩
theorem r_beg {N : j_M} {S : a_S} {b c l w v : Nat} (h : OKS S b) (hc : c < S 1 0) (hl : l < 8) (hw : w < 4) (hv : v < 10000) : xX12_begins (nI c) (nI l) (nI w) (nI v) (RS N S) = some (if a_H S c l w then nI 1 else nI 0, RS N (a_begins S c l w v)) := by
  have hn := g_n h.1.1
  have hq := INV_q h.1
  have h9 := OKS_9 h
  exact r_begins h.1.1 (by omega) (by omega) hl hw hv (by omega) (UD_f7 h.1.1 h.1.2.1 (by omega) hl)
theorem x_beg {N : j_M} {S : a_S} {b c l w v : Nat} (h : OKS S b) (hc : c < S 1 0) (hl : l < 8) (hw1 : 1 ≤ w) (hw : w < 4) (hv : v < 10000) : xX1_access 2 (nI c) (nI l) (nI w) (nI v) (XS N 2 S) = some (if a_H S c l w then nI (S 182 (8 * c + l)) else -1, XS N 2 (a_begins S c l w v)) := by
  have h9 := OKS_9 h
  exact x_access (by omega) h.1 hc hl hw1 hw hv (by omega)
theorem op_load {S : a_S} {b : Nat} (a d : Int32) (h : OKS S b) (hb : b + 100 ≤ 3000000) : OPN (xX11_load a d) (xX12_load a d) S (b + 100) := by
  by_cases hk : CAN S a d (nI 0)
  · obtain ⟨c, l, v, rfl, hc, rfl, hl, hv, hv9, h0⟩ := hk
    have g := (g_hv h.1.1 (8 * c + l)).2.2.2
    have hn := g_n h.1.1
    refine OPN_s (OKS_begins h hb hc hl (show 1 ≤ 1 by omega) (by omega) (show 0 < 10000 by omega)) (if a_H S c l 1 then nI (S 182 (8 * c + l)) else -1) (fun r i a _ => st_begins a) (fun N => ?_) (fun N => ?_)
    · unfold xX11_load
      rw [(can_ok (N := N) (N' := N) h.1 hc hl (show 0 < 10000 by omega) h0).1, e_obi2, if_neg (by decide), x_beg h hc hl (by omega) (by omega) (by omega), e_obi2]
    · unfold xX12_load
      rw [(can_ok (N := N) (N' := N) h.1 hc hl (show 0 < 10000 by omega) h0).2, e_obi2, if_neg (by decide), r_beg h hc hl (by omega) (by omega), e_obi2]
      by_cases hh : a_H S c l 1
      · have e : a_begins S c l 1 0 182 (8 * c + l) = S 182 (8 * c + l) := by
          unfold a_begins
          rw [if_pos hh]
          unfold a_hit a_does a_does2 a_does1
          rw [us_o (by omega), if_neg (by omega), if_neg (by omega), asee_o (by omega), an_o (by omega), hi0_o (by omega)]
        rw [if_pos hh, if_pos hh, if_neg (by decide)]
        simp (disch := omega) only [e_gd, e_ix, e_oli2, e_oml2, e_obi2, e_obv2, e_add, e_mul, e_sub, e_eq, e_lt, e_le, e_eq0, e_0eq, e_lt0, e_0lt, e_le0, e_0le, e_m1, e_m1', e_m1lt, Nat.add_assoc, Nat.not_lt_zero, Nat.le_zero_eq, m_place, sr_1, sr_14, sr_70, sr_126, sr_182, sr_238, sr_244, sr_292, sr_298, sr_304, sr_310, sr_316, sr_358, sr_400, sr_442, sr_484, sr_526, sr_532, sr_538, so_586, sr_586, sr_2746, sr_2752, sr_3112, sr_3118, sr_3124, sr_3130, sr_6730, sr_6736, sr_6766, sr_6814, sr_6961, sr_6962, sr_7362, sr_7363, sr_7364, su_6961, su_7362, su_7363, e]
      · rw [if_neg hh, if_neg hh, if_pos (by decide)]
  · refine OPN_q (OKS_le h (by omega) hb) (-2) (fun N _ => ?_) (fun N => ?_)
    · unfold xX11_load
      rw [(can_no (N := N) (N' := N) h.1 hk).1, e_obi2, if_pos (by decide)]
    · unfold xX12_load
      rw [(can_no (N := N) (N' := N) h.1 hk).2, e_obi2, if_pos (by decide)]
theorem op_store {S : a_S} {b : Nat} (a d f : Int32) (h : OKS S b) (hb : b + 100 ≤ 3000000) : OPN (xX11_store a d f) (xX12_store a d f) S (b + 100) := by
  by_cases hk : CAN S a d f
  · obtain ⟨c, l, v, rfl, hc, rfl, hl, rfl, hv9, h0⟩ := hk
    have g := (g_hv h.1.1 (8 * c + l)).2.2.2
    refine OPN_s (OKS_begins h hb hc hl (show 1 ≤ 2 by omega) (by omega) hv9) (if a_H S c l 2 then nI 1 else nI 0) (fun r i a _ => st_begins a) (fun N => ?_) (fun N => ?_)
    · unfold xX11_store
      rw [(can_ok (N := N) (N' := N) h.1 hc hl hv9 h0).1, e_obi2, if_neg (by decide), x_beg h hc hl (by omega) (by omega) hv9, e_obi2]
      by_cases hh : a_H S c l 2
      · rw [if_pos hh, if_pos hh, f_m1 (by omega)]
      · rw [if_neg hh, if_neg hh, if_pos rfl]
    · unfold xX12_store
      rw [(can_ok (N := N) (N' := N) h.1 hc hl hv9 h0).2, e_obi2, if_neg (by decide), r_beg h hc hl (by omega) hv9, e_obi2]
      by_cases hh : a_H S c l 2
      · rw [if_pos hh, if_neg (by decide)]
      · rw [if_neg hh, if_pos (by decide)]
  · refine OPN_q (OKS_le h (by omega) hb) (-1) (fun N _ => ?_) (fun N => ?_)
    · unfold xX11_store
      rw [(can_no (N := N) (N' := N) h.1 hk).1, e_obi2, if_pos (by decide)]
    · unfold xX12_store
      rw [(can_no (N := N) (N' := N) h.1 hk).2, e_obi2, if_pos (by decide)]
theorem op_add {S : a_S} {b : Nat} (a d f : Int32) (h : OKS S b) (hb : b + 100 ≤ 3000000) : OPN (xX11_add a d f) (xX12_add a d f) S (b + 100) := by
  by_cases hk : CAN S a d f
  · obtain ⟨c, l, v, rfl, hc, rfl, hl, rfl, hv9, h0⟩ := hk
    have g := (g_hv h.1.1 (8 * c + l)).2.2.2
    refine OPN_s (OKS_begins h hb hc hl (show 1 ≤ 3 by omega) (by omega) hv9) (if a_H S c l 3 then nI 1 else nI 0) (fun r i a _ => st_begins a) (fun N => ?_) (fun N => ?_)
    · unfold xX11_add
      rw [(can_ok (N := N) (N' := N) h.1 hc hl hv9 h0).1, e_obi2, if_neg (by decide), x_beg h hc hl (by omega) (by omega) hv9, e_obi2]
      by_cases hh : a_H S c l 3
      · rw [if_pos hh, if_pos hh, f_m1 (by omega)]
      · rw [if_neg hh, if_neg hh, if_pos rfl]
    · unfold xX12_add
      rw [(can_ok (N := N) (N' := N) h.1 hc hl hv9 h0).2, e_obi2, if_neg (by decide), r_beg h hc hl (by omega) hv9, e_obi2]
      by_cases hh : a_H S c l 3
      · rw [if_pos hh, if_neg (by decide)]
      · rw [if_neg hh, if_pos (by decide)]
  · refine OPN_q (OKS_le h (by omega) hb) (-1) (fun N _ => ?_) (fun N => ?_)
    · unfold xX11_add
      rw [(can_no (N := N) (N' := N) h.1 hk).1, e_obi2, if_pos (by decide)]
    · unfold xX12_add
      rw [(can_no (N := N) (N' := N) h.1 hk).2, e_obi2, if_pos (by decide)]
