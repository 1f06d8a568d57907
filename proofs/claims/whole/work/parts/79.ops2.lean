/-! ===== evict, deliver, tick, calm, go, state ===== -/
theorem g_isNeg {a : Int32} {n : Nat} (h : a < 0) (hn : n < 2147483648) : ¬ nI n < a := by rw [neg_gt h hn]; exact id
/-- a call that says yes or no -/
def OPB (F G : j_M → Option (Int32 × j_M)) (S : a_S) (b : Nat) : Prop := ∃ v S', (v = nI 0 ∨ v = nI 1) ∧ OKS S' b ∧ (∀ N, SCP N 1 S → ∃ N', F (XS N 2 S) = some (v, XS N' 2 S') ∧ SCP N' 1 S' ∧ sce 1 N N') ∧ (∀ N, ∃ x, G (RS N S) = some (v, RS (w4 N x) S'))
theorem OPB_q {F G : j_M → Option (Int32 × j_M)} {S : a_S} {b : Nat} (h : OKS S b) (hF : ∀ N, SCP N 1 S → F (XS N 2 S) = some (nI 0, XS N 2 S)) (hG : ∀ N, G (RS N S) = some (nI 0, RS N S)) : OPB F G S b :=
  ⟨nI 0, S, Or.inl rfl, h, fun N hs => ⟨N, hF N hs, hs, sce_r⟩, fun N => ⟨N 204, by rw [w4_id]; exact hG N⟩⟩
theorem OPB_s {F G : j_M → Option (Int32 × j_M)} {S S' : a_S} {b : Nat} (h : OKS S' b) (hst : ∀ r i, stt r i → ¬ (r = 1 ∧ i = 5) → S' r i = S r i) (hF : ∀ N, F (XS N 2 S) = some (nI 1, XS N 2 S')) (hG : ∀ N, G (RS N S) = some (nI 1, RS N S')) : OPB F G S b :=
  ⟨nI 1, S', Or.inr rfl, h, fun N hs => ⟨N, hF N, SCP_c hs hst, sce_r⟩, fun N => ⟨N 204, by rw [w4_id]; exact hG N⟩⟩
theorem op_evictB {S : a_S} {b : Nat} (a d : Int32) (h : OKS S b) (hb : b + 100 ≤ 3000000) : OPB (xX11_evict a d) (xX12_evict a d) S (b + 100) := by
  have hn := g_n h.1.1
  have hq := INV_q h.1
  have h9 := OKS_9 h
  have sc := h.1.2.2.2.2.2.2.1
  unfold SC at sc
  have hms := h.1.2.2.2.2.2.2.2.1
  have hno : ∀ (_ : ∀ N : j_M, xX1_evictIfAllowed 2 a d (XS N 2 S) = some (nI 0, XS N 2 S)) (_ : ∀ N : j_M, xX12_evict a d (RS N S) = some (nI 0, RS N S)), OPB (xX11_evict a d) (xX12_evict a d) S (b + 100) := by
    intro h1 h2
    refine OPB_q (OKS_le h (by omega) hb) (fun N _ => ?_) (fun N => h2 N)
    unfold xX11_evict
    rw [h1, e_obi2, e_gz0]
  rcases i_cases a with ⟨c, hc, rfl⟩ | ha
  · by_cases hcN : c < S 1 0
    · have g := g_mv h.1.1 c
      rcases i_cases d with ⟨l, hl, rfl⟩ | hd
      · by_cases hl8 : l < 8
        · have gh := g_hv h.1.1 (8 * c + l)
          have ex : ∀ N : j_M, xX1_evictIfAllowed 2 (nI c) (nI l) (XS N 2 S) = if S 292 c = l + 1 then some (nI 0, XS N 2 S) else if S 14 (8 * c + l) = 0 then some (nI 0, XS N 2 S) else obv (xX1_evictLine 2 (nI c) (nI l) (XS N 2 S)) fun M11 => some ((nI 1), M11) := by
            intro N
            unfold xX1_evictIfAllowed
            rw [x_isCpu h.1.1 hc, if_pos hcN, e_obi2, if_neg (by decide), x_isLine hl, if_pos hl8, e_obi2, if_neg (by decide), x_missed h.1.1 hms (by omega), e_obi2, f_oeq (by omega) (by omega), x_held (by omega) hl8, e_obi2, hc_ h.1.1, e_obi2, f_eq0 (by omega)]
          have er : ∀ N : j_M, xX12_evict (nI c) (nI l) (RS N S) = if S 14 (8 * c + l) = 0 then some (nI 0, RS N S) else if S 292 c = l + 1 then some (nI 0, RS N S) else obv (xX12_evicts (nI c) (nI l) (RS N S)) fun M9 => some ((nI 1), M9) := by
            intro N
            unfold xX12_evict
            rw [r_isCpu h.1.1 (by omega) hc, if_pos hcN, e_obi2, if_neg (by decide), q_isLine hl, if_pos hl8, e_obi2, if_neg (by decide), m_place, e_obi2]
            simp (disch := omega) only [e_gd, e_ix, e_oli2, e_oml2, e_obi2, e_obv2, e_add, e_mul, e_sub, e_eq, e_lt, e_le, e_eq0, e_0eq, e_lt0, e_0lt, e_le0, e_0le, e_m1, e_m1', e_m1lt, Nat.add_assoc, Nat.not_lt_zero, Nat.le_zero_eq, sr_1, sr_14, sr_70, sr_126, sr_182, sr_238, sr_244, sr_292, sr_298, sr_304, sr_310, sr_316, sr_358, sr_400, sr_442, sr_484, sr_526, sr_532, sr_538, so_586, sr_586, sr_2746, sr_2752, sr_3112, sr_3118, sr_3124, sr_3130, sr_6730, sr_6736, sr_6766, sr_6814, sr_6961, sr_6962, sr_7362, sr_7363, sr_7364, su_6961, su_7362, su_7363, oI_eq]
          by_cases h1 : S 292 c = l + 1
          · refine hno (fun N => by rw [ex, if_pos h1]) (fun N => ?_)
            rw [er, if_pos h1]
            split <;> rfl
          · by_cases h2 : S 14 (8 * c + l) = 0
            · exact hno (fun N => by rw [ex, if_neg h1, if_pos h2]) (fun N => by rw [er, if_pos h2])
            · have t1 := ev_t (S := S) (c := c) (l := l)
              have e5 : a_evicts S c l 1 5 = S 1 5 := st_evicts (Or.inl ⟨rfl, by omega⟩)
              have hh := h.2.2.2
              have ok : OKS (a_evicts S c l) (b + 100) := ⟨INV_evicts h.1 hcN hl8 h2, PR_c h.2.1 (fun r i hr => st_evicts (by unfold stt; omega)), TRC_c (TRC_notes (w := 4) (c := c) (l := l) h.2.2.1 h.1.1 (by omega) (by omega) hl8) (fun j => by unfold a_evicts a_givesAll; rw [sw_r (by omega), ag_o (by omega)]), by omega, by omega, hb⟩
              refine OPB_s ok (fun r i hr _ => st_evicts hr) (fun N => ?_) (fun N => ?_)
              · unfold xX11_evict
                rw [ex, if_neg h1, if_neg h2, x_evictLine (by omega) h.1.1 h.1.2.1 (by omega) (by omega) hl8 (by omega), e_obv2, e_obi2, e_gz1]
              · rw [er, if_neg h2, if_neg h1, r_evicts h.1.1 (by omega) (by omega) hl8 (by omega), e_obv2]
        · refine hno (fun N => ?_) (fun N => ?_)
          · unfold xX1_evictIfAllowed
            rw [x_isCpu h.1.1 hc, if_pos hcN, e_obi2, if_neg (by decide), x_isLine hl, if_neg hl8, e_obi2, if_pos (by decide)]
          · unfold xX12_evict
            rw [r_isCpu h.1.1 (by omega) hc, if_pos hcN, e_obi2, if_neg (by decide), q_isLine hl, if_neg hl8, e_obi2, if_pos (by decide)]
      · refine hno (fun N => ?_) (fun N => ?_)
        · unfold xX1_evictIfAllowed
          rw [x_isCpu h.1.1 hc, if_pos hcN, e_obi2, if_neg (by decide), x_isLineN hd, e_obi2, if_pos (by decide)]
        · unfold xX12_evict
          rw [r_isCpu h.1.1 (by omega) hc, if_pos hcN, e_obi2, if_neg (by decide), q_isLineN hd, e_obi2, if_pos (by decide)]
    · refine hno (fun N => ?_) (fun N => ?_)
      · unfold xX1_evictIfAllowed
        rw [x_isCpu h.1.1 hc, if_neg hcN, e_obi2, if_pos (by decide)]
      · unfold xX12_evict
        rw [r_isCpu h.1.1 (by omega) hc, if_neg hcN, e_obi2, if_pos (by decide)]
  · refine hno (fun N => ?_) (fun N => ?_)
    · unfold xX1_evictIfAllowed
      rw [x_isCpuN ha, e_obi2, if_pos (by decide)]
    · unfold xX12_evict
      rw [q_isCpuN h.1.1 (by omega) ha, e_obi2, if_pos (by decide)]
theorem op_evict {S : a_S} {b : Nat} (a d : Int32) (h : OKS S b) (hb : b + 100 ≤ 3000000) : OPN (xX11_evict a d) (xX12_evict a d) S (b + 100) := by
  obtain ⟨v, S', _, h2, h3, h4⟩ := op_evictB a d h hb
  exact ⟨v, S', h2, h3, h4⟩
theorem op_deliver {S : a_S} {b : Nat} (a : Int32) (h : OKS S b) (hb : b + 100 ≤ 3000000) : OPN (xX11_deliver a) (xX12_deliver a) S (b + 100) := by
  have hq := INV_q h.1
  have h9 := OKS_9 h
  have hno : ∀ (_ : ∀ N : j_M, xX11_deliver a (XS N 2 S) = some (-1, XS N 2 S)) (_ : ∀ N : j_M, xX12_deliver a (RS N S) = some (-1, RS N S)), OPN (xX11_deliver a) (xX12_deliver a) S (b + 100) := fun h1 h2 => OPN_q (OKS_le h (by omega) hb) (-1) (fun N _ => h1 N) h2
  rcases i_cases a with ⟨k, hk, rfl⟩ | ha
  · have ex : ∀ N : j_M, xX11_deliver (nI k) (XS N 2 S) = if k < S 1 7 then obi (xX1_deliverAt 2 (nI k) (XS N 2 S)) fun v3 M2 => some (v3, M2) else some (-1, XS N 2 S) := by
      intro N
      unfold xX11_deliver
      simp (disch := omega) only [e_gd, e_ix, e_oli2, e_oml2, e_obi2, e_obv2, e_add, e_mul, e_sub, e_eq, e_lt, e_le, e_eq0, e_0eq, e_lt0, e_0lt, e_le0, e_0le, e_m1, e_m1', e_m1lt, Nat.add_assoc, Nat.not_lt_zero, Nat.le_zero_eq, Nat.reduceAdd, xr_4, xr_5, xr_6, xr_7, xr_13, xr_14, xr_3, xr_10, xr_11, xr_12, xr_15, xr_16, xr_17, xr_18, xr_19, xr_0_8, xr_0_9, xr_0_10, xr_0_11, xr_0_12, xr_0_13, xr_0_14, xr_8_11, xr_8_12, xr_8_13, xr_8_14, xr_h, xr_e, xr_u, xr_m, xr_2, xr_9, if_false]
    have er : ∀ N : j_M, xX12_deliver (nI k) (RS N S) = if k < S 1 7 then obi (xX12_delivers (nI k) (RS N S)) fun v5 M4 => some (v5, M4) else some (-1, RS N S) := by
      intro N
      unfold xX12_deliver
      by_cases h0 : S 1 7 = 0
      · have e1 : nI 0 - nI 1 = (-1 : Int32) := by decide
        rw [if_neg (by omega)]
        unfold xX12_isIn
        simp (disch := omega) only [e_gd, e_ix, e_oli2, e_oml2, e_obi2, e_obv2, e_add, e_mul, e_sub, e_eq, e_lt, e_le, e_eq0, e_0eq, e_lt0, e_0lt, e_le0, e_0le, e_m1, e_m1', e_m1lt, Nat.add_assoc, Nat.not_lt_zero, Nat.le_zero_eq, sr_1, sr_14, sr_70, sr_126, sr_182, sr_238, sr_244, sr_292, sr_298, sr_304, sr_310, sr_316, sr_358, sr_400, sr_442, sr_484, sr_526, sr_532, sr_538, so_586, sr_586, sr_2746, sr_2752, sr_3112, sr_3118, sr_3124, sr_3130, sr_6730, sr_6736, sr_6766, sr_6814, sr_6961, sr_6962, sr_7362, sr_7363, sr_7364, su_6961, su_7362, su_7363, h0, e1, if_false, if_true]
      · simp (disch := omega) only [e_gd, e_ix, e_oli2, e_oml2, e_obi2, e_obv2, e_add, e_mul, e_sub, e_eq, e_lt, e_le, e_eq0, e_0eq, e_lt0, e_0lt, e_le0, e_0le, e_m1, e_m1', e_m1lt, Nat.add_assoc, Nat.not_lt_zero, Nat.le_zero_eq, sr_1, sr_14, sr_70, sr_126, sr_182, sr_238, sr_244, sr_292, sr_298, sr_304, sr_310, sr_316, sr_358, sr_400, sr_442, sr_484, sr_526, sr_532, sr_538, so_586, sr_586, sr_2746, sr_2752, sr_3112, sr_3118, sr_3124, sr_3130, sr_6730, sr_6736, sr_6766, sr_6814, sr_6961, sr_6962, sr_7362, sr_7363, sr_7364, su_6961, su_7362, su_7363, m_isIn]
        by_cases hk7 : k < S 1 7
        · have c1 : 0 ≤ k ∧ k ≤ S 1 7 - 1 := by omega
          rw [if_pos c1, if_pos hk7, if_neg (by decide)]
        · have c1 : ¬ (0 ≤ k ∧ k ≤ S 1 7 - 1) := by omega
          rw [if_neg c1, if_neg hk7, if_pos (by decide)]
    by_cases hk7 : k < S 1 7
    · have t1 := t_del (S := S) (i := k)
      have e5 : a_del S k 1 5 = S 1 5 := st_del (Or.inl ⟨rfl, by omega⟩)
      have hh := h.2.2.2
      have ok : OKS (a_del S k) (b + 100) := ⟨INV_del h.1 hk7, PR_c h.2.1 (fun r i hr => st_del (by unfold stt; omega)), TRC_del h.2.2.1 h.1 hk7, by omega, by omega, hb⟩
      refine OPN_m ok (nI (S 586 (9 * k + 2))) (fun r i hr _ => st_del hr) (fun N => ?_) (fun N => ?_)
      · rw [ex, if_pos hk7, x_del (by omega) h.1 hk7 (by omega), e_obi2]
      · obtain ⟨x, e⟩ := q_del (N := N) h.1 hk7 (by omega)
        exact ⟨x, by rw [er, if_pos hk7, e, e_obi2]⟩
    · exact hno (fun N => by rw [ex, if_neg hk7]) (fun N => by rw [er, if_neg hk7])
  · refine hno (fun N => ?_) (fun N => ?_)
    · unfold xX11_deliver
      rw [if_pos ha]
    · unfold xX12_deliver xX12_isIn
      simp (disch := omega) only [e_gd, e_ix, e_oli2, e_oml2, e_obi2, e_obv2, e_add, e_mul, e_sub, e_eq, e_lt, e_le, e_eq0, e_0eq, e_lt0, e_0lt, e_le0, e_0le, e_m1, e_m1', e_m1lt, Nat.add_assoc, Nat.not_lt_zero, Nat.le_zero_eq, sr_1, sr_14, sr_70, sr_126, sr_182, sr_238, sr_244, sr_292, sr_298, sr_304, sr_310, sr_316, sr_358, sr_400, sr_442, sr_484, sr_526, sr_532, sr_538, so_586, sr_586, sr_2746, sr_2752, sr_3112, sr_3118, sr_3124, sr_3130, sr_6730, sr_6736, sr_6766, sr_6814, sr_6961, sr_6962, sr_7362, sr_7363, sr_7364, su_6961, su_7362, su_7363, neg_lt ha, if_true]
theorem x_hasTime {N : j_M} {S : a_S} {n : Nat} (h5 : S 1 5 ≤ 9999) (hn : n < 2147483648) : xX1_hasTime 2 (nI n) (XS N 2 S) = some (if S 1 5 + n ≤ 9999 then nI 1 else nI 0, XS N 2 S) := by
  unfold xX1_hasTime
  simp (disch := omega) only [e_gd, e_ix, e_oli2, e_oml2, e_obi2, e_obv2, e_add, e_mul, e_sub, e_eq, e_lt, e_le, e_eq0, e_0eq, e_lt0, e_0lt, e_le0, e_0le, e_m1, e_m1', e_m1lt, Nat.add_assoc, Nat.not_lt_zero, Nat.le_zero_eq, Nat.reduceAdd, xr_4, xr_5, xr_6, xr_7, xr_13, xr_14, xr_3, xr_10, xr_11, xr_12, xr_15, xr_16, xr_17, xr_18, xr_19, xr_0_8, xr_0_9, xr_0_10, xr_0_11, xr_0_12, xr_0_13, xr_0_14, xr_8_11, xr_8_12, xr_8_13, xr_8_14, xr_h, xr_e, xr_u, xr_m, xr_2, xr_9]
  by_cases h : S 1 5 + n ≤ 9999
  · rw [if_neg (by omega), if_pos h]
  · rw [if_pos (by omega), if_neg h]
theorem OKS_tkN {S : a_S} {b n : Nat} (h : OKS S b) (hn : S 1 5 + n ≤ 9999) : OKS (a_tkN n S) b := by
  have t1 := t_tkN n S (g_n h.1.1)
  have e5 := tkN_5 n S
  have hh := h.2.2.2
  exact ⟨INV_tkN n S h.1 (by omega), PR_c h.2.1 (fun r i hr => st_tkN (by unfold stt; omega) (by omega) n S), TRC_tkN n S h.2.2.1 h.1 (by omega), by omega, by omega, by omega⟩
theorem OKS_cR {S : a_S} {b n : Nat} (h : OKS S b) (hn : S 1 5 + n ≤ 9999) : OKS (a_cR n S) b := by
  have t1 := t_cR n S (g_n h.1.1)
  have e5 := cR_5 n S
  have hh := h.2.2.2
  exact ⟨INV_cR n S h.1 (by omega), PR_c h.2.1 (fun r i hr => st_cR (by unfold stt; omega) (by omega) n S), TRC_cR n S h.2.2.1 h.1 (by omega), by omega, by omega, by omega⟩
theorem OKS_goN {S : a_S} {b n o : Nat} (h : OKS S b) (hn : S 1 5 + n ≤ 9999) : OKS (a_goN o n S) b := by
  have t1 := OK_goN (o := o) n S h.1 h.2.1 (by omega)
  have hh := h.2.2.2
  exact ⟨t1.1, t1.2.1, TRC_goN n S h.2.2.1 h.1 h.2.1 (by omega), by omega, by omega, by omega⟩
theorem OKS_ds {S : a_S} {b n d : Nat} (h : OKS S b) (hb : b + 100 ≤ 3000000) (hn : n ≤ 50) : OKS (a_ds d n S) (b + 100) := by
  have t1 := t_ds (b := d) n S
  have e5 : a_ds d n S 1 5 = S 1 5 := st_ds (Or.inl ⟨rfl, by omega⟩) n S
  have hh := h.2.2.2
  exact ⟨INV_ds n S h.1, PR_c h.2.1 (fun r i hr => st_ds (by unfold stt; omega) n S), TRC_ds n S h.2.2.1 h.1, by omega, by omega, hb⟩
/-- ticks, with a number that can be -/
theorem rt_ok {N : j_M} {S : a_S} {b n : Nat} (h : OKS S b) (h1 : 1 ≤ n) (hn : n ≤ 99) : xX12_tick (nI n) (RS N S) = if S 1 5 + n ≤ 9999 then some (nI (S 1 5 + n), RS N (a_tkN n S)) else some (-1, RS N S) := by
  have h9 := OKS_9 h
  have hh := h.2.2.2
  unfold xX12_tick
  rw [m_isIn _ (by omega) (by omega) (by omega), if_pos (by omega), e_obi2, if_neg (by decide)]
  simp (disch := omega) only [e_gd, e_ix, e_oli2, e_oml2, e_obi2, e_obv2, e_add, e_mul, e_sub, e_eq, e_lt, e_le, e_eq0, e_0eq, e_lt0, e_0lt, e_le0, e_0le, e_m1, e_m1', e_m1lt, Nat.add_assoc, Nat.not_lt_zero, Nat.le_zero_eq, sr_1, sr_14, sr_70, sr_126, sr_182, sr_238, sr_244, sr_292, sr_298, sr_304, sr_310, sr_316, sr_358, sr_400, sr_442, sr_484, sr_526, sr_532, sr_538, so_586, sr_586, sr_2746, sr_2752, sr_3112, sr_3118, sr_3124, sr_3130, sr_6730, sr_6736, sr_6766, sr_6814, sr_6961, sr_6962, sr_7362, sr_7363, sr_7364, su_6961, su_7362, su_7363]
  by_cases h5 : S 1 5 + n ≤ 9999
  · have e := r_tkN (N := N) n (1000000 - (n + 1)) 0 n S h.1 (by omega) hn (by omega) (by omega)
    rw [show 1000000 - (n + 1) + n + 1 = fu by unfold fu; omega] at e
    rw [if_pos h5, if_pos h5, e]
  · rw [if_neg h5, if_neg h5]
theorem rc_ok {N : j_M} {S : a_S} {b n : Nat} (h : OKS S b) (h1 : 1 ≤ n) (hn : n ≤ 60) : ∃ x, xX12_calm (nI n) (RS N S) = if S 1 5 + n ≤ 9999 then some (nI (a_cK n S), RS (w4 N x) (a_cR n S)) else some (-1, RS N S) := by
  have h9 := OKS_9 h
  have hh := h.2.2.2
  unfold xX12_calm
  rw [m_isIn _ (by omega) (by omega) (by omega), if_pos (by omega), e_obi2, if_neg (by decide)]
  simp (disch := omega) only [e_gd, e_ix, e_oli2, e_oml2, e_obi2, e_obv2, e_add, e_mul, e_sub, e_eq, e_lt, e_le, e_eq0, e_0eq, e_lt0, e_0lt, e_le0, e_0le, e_m1, e_m1', e_m1lt, Nat.add_assoc, Nat.not_lt_zero, Nat.le_zero_eq, sr_1, sr_14, sr_70, sr_126, sr_182, sr_238, sr_244, sr_292, sr_298, sr_304, sr_310, sr_316, sr_358, sr_400, sr_442, sr_484, sr_526, sr_532, sr_538, so_586, sr_586, sr_2746, sr_2752, sr_3112, sr_3118, sr_3124, sr_3130, sr_6730, sr_6736, sr_6766, sr_6814, sr_6961, sr_6962, sr_7362, sr_7363, sr_7364, su_6961, su_7362, su_7363]
  by_cases h5 : S 1 5 + n ≤ 9999
  · obtain ⟨x, e⟩ := r_cR n (1000000 - (n + 1)) 0 0 n N S h.1 (by omega) hn (by omega) (by omega)
    rw [show 1000000 - (n + 1) + n + 1 = fu by unfold fu; omega, Nat.zero_add] at e
    exact ⟨x, by rw [if_pos h5, if_pos h5, e]⟩
  · exact ⟨N 204, by rw [if_neg h5, if_neg h5]⟩
theorem rg_ok {N : j_M} {S : a_S} {b n o : Nat} (h : OKS S b) (h1 : 1 ≤ n) (hn : n ≤ 60) (ho : o ≤ 2) : ∃ x, xX12_go (nI n) (nI o) (RS N S) = if S 1 5 + n ≤ 9999 then some (nI (a_goN o n S 1 10 - S 1 10), RS (w4 N x) (a_goN o n S)) else some (-1, RS N S) := by
  have h9 := OKS_9 h
  have hh := h.2.2.2
  unfold xX12_go
  rw [m_isIn _ (by omega) (by omega) (by omega), if_pos (by omega), e_obi2, if_neg (by decide), m_isIn _ (by omega) (by omega) (by omega), if_pos (by omega), e_obi2, if_neg (by decide)]
  simp (disch := omega) only [e_gd, e_ix, e_oli2, e_oml2, e_obi2, e_obv2, e_add, e_mul, e_sub, e_eq, e_lt, e_le, e_eq0, e_0eq, e_lt0, e_0lt, e_le0, e_0le, e_m1, e_m1', e_m1lt, Nat.add_assoc, Nat.not_lt_zero, Nat.le_zero_eq, sr_1, sr_14, sr_70, sr_126, sr_182, sr_238, sr_244, sr_292, sr_298, sr_304, sr_310, sr_316, sr_358, sr_400, sr_442, sr_484, sr_526, sr_532, sr_538, so_586, sr_586, sr_2746, sr_2752, sr_3112, sr_3118, sr_3124, sr_3130, sr_6730, sr_6736, sr_6766, sr_6814, sr_6961, sr_6962, sr_7362, sr_7363, sr_7364, su_6961, su_7362, su_7363]
  by_cases h5 : S 1 5 + n ≤ 9999
  · obtain ⟨x, e⟩ := r_goN ho (w := S 1 10) n (1000000 - (n + 1)) 0 n N S h.1 h.2.1 (by omega) hn (by omega) (by omega) (Nat.le_refl _)
    rw [show 1000000 - (n + 1) + n + 1 = fu by unfold fu; omega] at e
    exact ⟨x, by rw [if_pos h5, if_pos h5, e]⟩
  · exact ⟨N 204, by rw [if_neg h5, if_neg h5]⟩
theorem op_tick {S : a_S} {b : Nat} (a : Int32) (h : OKS S b) (hb : b + 100 ≤ 3000000) : OPN (xX11_tick a) (xX12_tick a) S (b + 100) := by
  have h9 := OKS_9 h
  have hh := h.2.2.2
  have hno : ∀ (_ : ∀ N : j_M, xX11_tick a (XS N 2 S) = some (-1, XS N 2 S)) (_ : ∀ N : j_M, xX12_tick a (RS N S) = some (-1, RS N S)), OPN (xX11_tick a) (xX12_tick a) S (b + 100) := fun h1 h2 => OPN_q (OKS_le h (by omega) hb) (-1) (fun N _ => h1 N) h2
  rcases i_cases a with ⟨k, hk, rfl⟩ | ha
  · by_cases hr : 1 ≤ k ∧ k ≤ 99
    · have ex : ∀ N : j_M, xX11_tick (nI k) (XS N 2 S) = if S 1 5 + k ≤ 9999 then some (nI (S 1 5 + k), XS N 2 (a_tkN k S)) else some (-1, XS N 2 S) := by
        intro N
        unfold xX11_tick
        rw [f_lt (by omega) (by omega), if_neg (by omega), f_lt (by omega) (by omega), if_neg (by omega), x_hasTime (by omega) hk, e_obi2]
        by_cases h5 : S 1 5 + k ≤ 9999
        · rw [if_pos h5, if_pos h5, if_neg (by decide), x_tkN (by omega) h.1 (by omega) (by omega) (by omega), e_obv2]
          simp (disch := omega) only [e_gd, e_ix, e_oli2, e_oml2, e_obi2, e_obv2, e_add, e_mul, e_sub, e_eq, e_lt, e_le, e_eq0, e_0eq, e_lt0, e_0lt, e_le0, e_0le, e_m1, e_m1', e_m1lt, Nat.add_assoc, Nat.not_lt_zero, Nat.le_zero_eq, Nat.reduceAdd, xr_4, xr_5, xr_6, xr_7, xr_13, xr_14, xr_3, xr_10, xr_11, xr_12, xr_15, xr_16, xr_17, xr_18, xr_19, xr_0_8, xr_0_9, xr_0_10, xr_0_11, xr_0_12, xr_0_13, xr_0_14, xr_8_11, xr_8_12, xr_8_13, xr_8_14, xr_h, xr_e, xr_u, xr_m, xr_2, xr_9, tkN_5]
        · rw [if_neg h5, if_neg h5, if_pos (by decide)]
      by_cases h5 : S 1 5 + k ≤ 9999
      · exact OPN_s (OKS_le (OKS_tkN h h5) (by omega) hb) (nI (S 1 5 + k)) (fun r i a b => st_tkN a b k S) (fun N => by rw [ex, if_pos h5]) (fun N => by rw [rt_ok h hr.1 hr.2, if_pos h5])
      · exact hno (fun N => by rw [ex, if_neg h5]) (fun N => by rw [rt_ok h hr.1 hr.2, if_neg h5])
    · refine hno (fun N => ?_) (fun N => ?_)
      · unfold xX11_tick
        simp (disch := omega) only [e_gd, e_ix, e_oli2, e_oml2, e_obi2, e_obv2, e_add, e_mul, e_sub, e_eq, e_lt, e_le, e_eq0, e_0eq, e_lt0, e_0lt, e_le0, e_0le, e_m1, e_m1', e_m1lt, Nat.add_assoc, Nat.not_lt_zero, Nat.le_zero_eq]
        by_cases h1 : k < 1
        · rw [if_pos h1]
        · rw [if_neg h1, if_pos (by omega)]
      · unfold xX12_tick
        rw [m_isIn _ hk (by omega) (by omega), if_neg (by omega), e_obi2, if_pos (by decide)]
  · refine hno (fun N => ?_) (fun N => ?_)
    · unfold xX11_tick
      simp (disch := omega) only [neg_lt ha, if_true]
    · unfold xX12_tick
      rw [q_isInN ha (by omega), e_obi2, if_pos (by decide)]
theorem op_calm {S : a_S} {b : Nat} (a : Int32) (h : OKS S b) (hb : b + 100 ≤ 3000000) : OPN (xX11_calm a) (xX12_calm a) S (b + 100) := by
  have h9 := OKS_9 h
  have hh := h.2.2.2
  have hno : ∀ (_ : ∀ N : j_M, xX11_calm a (XS N 2 S) = some (-1, XS N 2 S)) (_ : ∀ N : j_M, xX12_calm a (RS N S) = some (-1, RS N S)), OPN (xX11_calm a) (xX12_calm a) S (b + 100) := fun h1 h2 => OPN_q (OKS_le h (by omega) hb) (-1) (fun N _ => h1 N) h2
  rcases i_cases a with ⟨k, hk, rfl⟩ | ha
  · by_cases hr : 1 ≤ k ∧ k ≤ 60
    · have ex : ∀ N : j_M, xX11_calm (nI k) (XS N 2 S) = if S 1 5 + k ≤ 9999 then some (nI (a_cK k S), XS N 2 (a_cR k S)) else some (-1, XS N 2 S) := by
        intro N
        unfold xX11_calm
        rw [f_lt (by omega) (by omega), if_neg (by omega), f_lt (by omega) (by omega), if_neg (by omega), x_hasTime (by omega) hk, e_obi2]
        by_cases h5 : S 1 5 + k ≤ 9999
        · rw [if_pos h5, if_pos h5, if_neg (by decide), x_calm (by omega) h.1 (by omega) (by omega) (by omega), e_obi2]
        · rw [if_neg h5, if_neg h5, if_pos (by decide)]
      by_cases h5 : S 1 5 + k ≤ 9999
      · refine OPN_m (OKS_le (OKS_cR h h5) (by omega) hb) (nI (a_cK k S)) (fun r i a b => st_cR a b k S) (fun N => by rw [ex, if_pos h5]) (fun N => ?_)
        obtain ⟨x, e⟩ := rc_ok (N := N) h hr.1 hr.2
        exact ⟨x, by rw [e, if_pos h5]⟩
      · refine hno (fun N => by rw [ex, if_neg h5]) (fun N => ?_)
        obtain ⟨x, e⟩ := rc_ok (N := N) h hr.1 hr.2
        rw [e, if_neg h5]
    · refine hno (fun N => ?_) (fun N => ?_)
      · unfold xX11_calm
        simp (disch := omega) only [e_gd, e_ix, e_oli2, e_oml2, e_obi2, e_obv2, e_add, e_mul, e_sub, e_eq, e_lt, e_le, e_eq0, e_0eq, e_lt0, e_0lt, e_le0, e_0le, e_m1, e_m1', e_m1lt, Nat.add_assoc, Nat.not_lt_zero, Nat.le_zero_eq]
        by_cases h1 : k < 1
        · rw [if_pos h1]
        · rw [if_neg h1, if_pos (by omega)]
      · unfold xX12_calm
        rw [m_isIn _ hk (by omega) (by omega), if_neg (by omega), e_obi2, if_pos (by decide)]
  · refine hno (fun N => ?_) (fun N => ?_)
    · unfold xX11_calm
      simp (disch := omega) only [neg_lt ha, if_true]
    · unfold xX12_calm
      rw [q_isInN ha (by omega), e_obi2, if_pos (by decide)]
theorem op_go {S : a_S} {b : Nat} (a d : Int32) (h : OKS S b) (hb : b + 100 ≤ 3000000) : OPN (xX11_go a d) (xX12_go a d) S (b + 100) := by
  have h9 := OKS_9 h
  have hh := h.2.2.2
  have hno : ∀ (_ : ∀ N : j_M, xX11_go a d (XS N 2 S) = some (-1, XS N 2 S)) (_ : ∀ N : j_M, xX12_go a d (RS N S) = some (-1, RS N S)), OPN (xX11_go a d) (xX12_go a d) S (b + 100) := fun h1 h2 => OPN_q (OKS_le h (by omega) hb) (-1) (fun N _ => h1 N) h2
  rcases i_cases a with ⟨k, hk, rfl⟩ | ha
  · by_cases hr : 1 ≤ k ∧ k ≤ 60
    · rcases i_cases d with ⟨o, ho, rfl⟩ | hd
      · by_cases ho2 : o ≤ 2
        · by_cases h5 : S 1 5 + k ≤ 9999
          · refine ⟨nI (a_goN o k S 1 10 - S 1 10), a_goN o k S, OKS_le (OKS_goN h h5) (by omega) hb, fun N hs => ?_, fun N => ?_⟩
            · obtain ⟨N', e, s, q⟩ := y_go ho2 hs h.1 h.2.1 hr.2 (by omega) (by omega)
              refine ⟨N', ?_, s, q⟩
              unfold xX11_go
              simp (disch := omega) only [e_gd, e_ix, e_oli2, e_oml2, e_obi2, e_obv2, e_add, e_mul, e_sub, e_eq, e_lt, e_le, e_eq0, e_0eq, e_lt0, e_0lt, e_le0, e_0le, e_m1, e_m1', e_m1lt, Nat.add_assoc, Nat.not_lt_zero, Nat.le_zero_eq, if_neg, if_false, x_hasTime (N := N) (show S 1 5 ≤ 9999 by omega) hk]
              rw [if_pos h5, if_neg (by decide), e, e_obi2]
            · obtain ⟨x, e⟩ := rg_ok (N := N) h hr.1 hr.2 ho2
              exact ⟨x, by rw [e, if_pos h5]⟩
          · refine hno (fun N => ?_) (fun N => ?_)
            · unfold xX11_go
              simp (disch := omega) only [e_gd, e_ix, e_oli2, e_oml2, e_obi2, e_obv2, e_add, e_mul, e_sub, e_eq, e_lt, e_le, e_eq0, e_0eq, e_lt0, e_0lt, e_le0, e_0le, e_m1, e_m1', e_m1lt, Nat.add_assoc, Nat.not_lt_zero, Nat.le_zero_eq, if_neg, if_false, x_hasTime (N := N) (show S 1 5 ≤ 9999 by omega) hk]
              rw [if_pos trivial]
            · obtain ⟨x, e⟩ := rg_ok (N := N) h hr.1 hr.2 ho2
              rw [e, if_neg h5]
        · refine hno (fun N => ?_) (fun N => ?_)
          · unfold xX11_go
            simp (disch := omega) only [e_gd, e_ix, e_oli2, e_oml2, e_obi2, e_obv2, e_add, e_mul, e_sub, e_eq, e_lt, e_le, e_eq0, e_0eq, e_lt0, e_0lt, e_le0, e_0le, e_m1, e_m1', e_m1lt, Nat.add_assoc, Nat.not_lt_zero, Nat.le_zero_eq, if_neg, if_pos, if_false]
          · unfold xX12_go
            rw [m_isIn _ hk (by omega) (by omega), if_pos (by omega), e_obi2, if_neg (by decide), m_isIn _ ho (by omega) (by omega), if_neg (by omega), e_obi2, if_pos (by decide)]
      · refine hno (fun N => ?_) (fun N => ?_)
        · unfold xX11_go
          simp (disch := omega) only [e_gd, e_ix, e_oli2, e_oml2, e_obi2, e_obv2, e_add, e_mul, e_sub, e_eq, e_lt, e_le, e_eq0, e_0eq, e_lt0, e_0lt, e_le0, e_0le, e_m1, e_m1', e_m1lt, Nat.add_assoc, Nat.not_lt_zero, Nat.le_zero_eq, if_neg, neg_0 hd, if_true]
        · unfold xX12_go
          rw [m_isIn _ hk (by omega) (by omega), if_pos (by omega), e_obi2, if_neg (by decide), q_isInN hd (by omega), e_obi2, if_pos (by decide)]
    · refine hno (fun N => ?_) (fun N => ?_)
      · unfold xX11_go
        simp (disch := omega) only [e_gd, e_ix, e_oli2, e_oml2, e_obi2, e_obv2, e_add, e_mul, e_sub, e_eq, e_lt, e_le, e_eq0, e_0eq, e_lt0, e_0lt, e_le0, e_0le, e_m1, e_m1', e_m1lt, Nat.add_assoc, Nat.not_lt_zero, Nat.le_zero_eq]
        by_cases h1 : k < 1
        · rw [if_pos h1]
        · rw [if_neg h1, if_pos (by omega)]
      · unfold xX12_go
        rw [m_isIn _ hk (by omega) (by omega), if_neg (by omega), e_obi2, if_pos (by decide)]
  · refine hno (fun N => ?_) (fun N => ?_)
    · unfold xX11_go
      simp (disch := omega) only [neg_lt ha, if_true]
    · unfold xX12_go
      rw [q_isInN ha (by omega), e_obi2, if_pos (by decide)]
theorem op_state {S : a_S} {b : Nat} (a : Int32) (h : OKS S b) (hb : b + 100 ≤ 3000000) : OPN (xX11_state a) (xX12_state a) S (b + 100) := by
  obtain ⟨n, rfl⟩ := nI_any a
  have hh := h.2.2.2
  have o : ∀ r i, ¬ (r = 1 ∧ i = 6) → sw S 1 6 n r i = S r i := fun r i hr => sw_ne hr
  have ok : OKS (sw S 1 6 n) (b + 100) := by
    refine ⟨INV_scr h.1 (fun r i _ _ _ d => sw_ne d), PR_c h.2.1 (fun r i hr => sw_ne (by omega)), TRC_c h.2.2.1 (fun i => sw_r (by omega)), ?_, ?_, hb⟩
    · rw [sw_i (by omega)]; omega
    · rw [sw_r (by omega), sw_i (by omega)]; omega
  refine ⟨nI (S 1 6), sw S 1 6 n, ok, fun N hs => ?_, fun N => ?_⟩
  · refine ⟨mw N 22 7 (nI n), ?_, SCP_one hs (Or.inr ⟨rfl, rfl, rfl⟩), sce_w (by omega)⟩
    have e7 : N 22 7 = nI (S 1 6) := hs.2.2.2.2.1
    unfold xX11_state
    simp (disch := omega) only [e_gd, e_ix, e_oli2, e_oml2, e_obi2, e_obv2, e_add, e_mul, e_sub, e_eq, e_lt, e_le, e_eq0, e_0eq, e_lt0, e_0lt, e_le0, e_0le, e_m1, e_m1', e_m1lt, Nat.add_assoc, Nat.not_lt_zero, Nat.le_zero_eq, xs_o, e7, xs_wo]
    rw [xs_u (by omega)]
  · refine ⟨N 204, ?_⟩
    rw [w4_id]
    unfold xX12_state
    simp (disch := omega) only [e_gd, e_ix, e_oli2, e_oml2, e_obi2, e_obv2, e_add, e_mul, e_sub, e_eq, e_lt, e_le, e_eq0, e_0eq, e_lt0, e_0lt, e_le0, e_0le, e_m1, e_m1', e_m1lt, Nat.add_assoc, Nat.not_lt_zero, Nat.le_zero_eq, sr_1, sr_14, sr_70, sr_126, sr_182, sr_238, sr_244, sr_292, sr_298, sr_304, sr_310, sr_316, sr_358, sr_400, sr_442, sr_484, sr_526, sr_532, sr_538, so_586, sr_586, sr_2746, sr_2752, sr_3112, sr_3118, sr_3124, sr_3130, sr_6730, sr_6736, sr_6766, sr_6814, sr_6961, sr_6962, sr_7362, sr_7363, sr_7364, su_6961, su_7362, su_7363, st_1, st_14, st_70, st_126, st_182, st_238, st_244, sm_292, so_292, st_292, st_298, st_304, st_310, st_316, st_358, st_400, st_442, st_484, st_526, st_532, sm_538, so_538, st_538, sm_586, sn_586, sp_586, st_586, st_2746, st_2752, st_3112, st_3118, st_3124, st_3130, st_6730, st_6736, st_6766, st_6814, st_6961, st_6962, st_7362, st_7363, st_7364, sv_6961, sv_7362, sv_7363]
