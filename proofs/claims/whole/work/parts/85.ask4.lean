/-! ===== more questions ===== -/
theorem x_isNode {N : j_M} {t n : Nat} {S : a_S} (h : RG S) (hn : n < 2147483648) : xX1_isNode t (nI n) (XS N t S) = some (if n < S 1 0 ∨ n = 6 then nI 1 else nI 0, XS N t S) := by
  have hN := g_n h
  unfold xX1_isNode
  simp (disch := omega) only [e_gd, e_ix, e_oli2, e_oml2, e_obi2, e_obv2, e_add, e_mul, e_sub, e_eq, e_lt, e_le, e_eq0, e_0eq, e_lt0, e_0lt, e_le0, e_0le, e_m1, e_m1', e_m1lt, Nat.add_assoc, Nat.not_lt_zero, Nat.le_zero_eq, Nat.reduceAdd, xr_4, xr_5, xr_6, xr_7, xr_13, xr_14, xr_3, xr_10, xr_11, xr_12, xr_15, xr_16, xr_17, xr_18, xr_19, xr_0_8, xr_0_9, xr_0_10, xr_0_11, xr_0_12, xr_0_13, xr_0_14, xr_8_11, xr_8_12, xr_8_13, xr_8_14, xr_h, xr_e, xr_u, xr_m, xr_2, xr_9, if_false]
  by_cases h6 : n = 6
  · rw [if_pos h6, if_pos (Or.inr h6)]
  · rw [if_neg h6]
    by_cases h8 : n < S 1 0
    · rw [if_neg (by omega), if_pos (Or.inl h8)]
    · rw [if_pos (by omega), if_neg (by omega)]
theorem x_isNodeN {a : Int32} {t : Nat} {M : j_M} (h : a < 0) : xX1_isNode t a M = some (nI 0, M) := by
  unfold xX1_isNode
  simp (disch := omega) only [neg_eq h, neg_0 h, if_true, if_false]
theorem q_isNodeN {N : j_M} {S : a_S} {a : Int32} (h : RG S) (h1 : 1 ≤ S 1 0) (ha : a < 0) : xX12_isNode a (RS N S) = some (nI 0, RS N S) := by
  unfold xX12_isNode
  rw [q_isCpuN h h1 ha, e_obi2, if_pos (by decide)]
  simp (disch := omega) only [neg_eq ha, if_false]
theorem fr_cut {P Q : Nat → Prop} [DecidablePred P] [DecidablePred Q] {U : Nat} (h : ∀ k, k < 8 → (P k ↔ k < U ∧ Q k)) (hU : U ≤ 8) : ∀ (m k : Nat), k + m = 8 → fr P m k = fr Q (U - k) k
  | 0, k, hk => by rw [show U - k = 0 by omega]; rfl
  | m + 1, k, hk => by
    have ih := fr_cut h hU m (k + 1) (by omega)
    have hk8 := h k (by omega)
    rw [fr_s]
    by_cases hkU : k < U
    · rw [show U - k = (U - (k + 1)) + 1 by omega, fr_s, ih]
      by_cases q : Q k
      · rw [if_pos (hk8.2 ⟨hkU, q⟩), if_pos q]
      · rw [if_neg (fun p => q (hk8.1 p).2), if_neg q]
    · rw [if_neg (fun p => hkU (hk8.1 p).1), ih, show U - (k + 1) = 0 by omega, show U - k = 0 by omega]
      rfl
theorem x_place_l {t B l : Nat} {d : Nat → Nat} {M : j_M} (hl : l < 8) (hB : B < 4294967296) (hn : ∀ k, k < 8 → B / 16 ^ k % 16 = d k) : ∀ (m n k : Nat), k + m = 8 → xX1_placeByUse_16 t (n + m + 1) (nI l) (nI B) (nI k) M = some (oI (fr (fun k => d k = l + 1) m k), M)
  | 0, n, k, hk => by
    rw [show n + 0 + 1 = n + 1 from rfl, xX1_placeByUse_16.eq_2]
    simp (disch := omega) only [e_gd, e_ix, e_oli2, e_oml2, e_obi2, e_obv2, e_add, e_mul, e_sub, e_eq, e_lt, e_le, e_eq0, e_0eq, e_lt0, e_0lt, e_le0, e_0le, e_m1, e_m1', e_m1lt, Nat.add_assoc, Nat.not_lt_zero, Nat.le_zero_eq, if_pos]
    rfl
  | m + 1, n, k, hk => by
    have nb := hn k (by omega)
    have dk : d k < 16 := by rw [← nb]; exact Nat.mod_lt _ (by omega)
    have ih := x_place_l (t := t) (M := M) hl hB hn m n (k + 1) (by omega)
    rw [show n + (m + 1) + 1 = (n + m + 1) + 1 by omega, xX1_placeByUse_16.eq_2, fr_s]
    simp (disch := omega) only [e_gd, e_ix, e_oli2, e_oml2, e_obi2, e_obv2, e_add, e_mul, e_sub, e_eq, e_lt, e_le, e_eq0, e_0eq, e_lt0, e_0lt, e_le0, e_0le, e_m1, e_m1', e_m1lt, Nat.add_assoc, Nat.not_lt_zero, Nat.le_zero_eq, e_us, e_and, n_m15, p16, nb]
    rw [if_neg (by omega), show n + (m + 1) = n + m + 1 from rfl, ih]
    by_cases h1 : d k = l + 1
    · rw [if_pos h1, if_pos h1]; rfl
    · rw [if_neg h1, if_neg h1]
theorem x_placeByUse {N : j_M} {t c l : Nat} {S : a_S} (h : RG S) (hc : c < 6) (hl : l < 8) : xX1_placeByUse t (nI c) (nI l) (XS N t S) = some (oI (a_used S c l), XS N t S) := by
  have hb := bk_le c
  have h8 := g_8 h 238 c (Or.inl rfl)
  have e := x_place_l (t := t) (M := XS N t S) hl (uo_lt h c) (uo_nib h c) 8 999991 0 (by omega)
  have e2 : fr (fun k => ud S c k = l + 1) 8 0 = a_used S c l := by
    have := fr_cut (P := fun k => ud S c k = l + 1) (Q := fun k => S 244 (8 * c + k) = l) (U := S 238 c) (fun k hk => by unfold ud; split <;> omega) h8 8 0 (by omega)
    rw [this]
    rfl
  rw [e2] at e
  unfold xX1_placeByUse
  rw [x_blk (by omega), e_obi2]
  simp (disch := omega) only [e_gd, e_ix, e_oli2, e_oml2, e_obi2, e_obv2, e_add, e_mul, e_sub, e_eq, e_lt, e_le, e_eq0, e_0eq, e_lt0, e_0lt, e_le0, e_0le, e_m1, e_m1', e_m1lt, Nat.add_assoc, Nat.not_lt_zero, Nat.le_zero_eq, Nat.reduceAdd, xr_4, xr_5, xr_6, xr_7, xr_13, xr_14, xr_3, xr_10, xr_11, xr_12, xr_15, xr_16, xr_17, xr_18, xr_19, xr_0_8, xr_0_9, xr_0_10, xr_0_11, xr_0_12, xr_0_13, xr_0_14, xr_8_11, xr_8_12, xr_8_13, xr_8_14, xr_h, xr_e, xr_u, xr_m, xr_2, xr_9]
  rw [fu_s 9 (by omega), show 1000000 - 9 + 9 = 999991 + 8 + 1 by omega]
  exact e
theorem op_node {S : a_S} {b : Nat} (a d f : Int32) (h : OKS S b) : OPN (xX11_node a d f) (xX12_node a d f) S b := by
  have hN := g_n h.1.1
  have sc := h.1.2.2.2.2.2.2.1
  unfold SC at sc
  have hno : ∀ (_ : ∀ N : j_M, xX11_node a d f (XS N 2 S) = some (-2, XS N 2 S)) (_ : ∀ N : j_M, xX12_node a d f (RS N S) = some (-2, RS N S)), OPN (xX11_node a d f) (xX12_node a d f) S b := fun h1 h2 => OPN_q h (-2) (fun N _ => h1 N) h2
  rcases i_cases a with ⟨n, hn, rfl⟩ | ha
  · by_cases hnN : n < S 1 0 ∨ n = 6
    · rcases i_cases d with ⟨l, hl, rfl⟩ | hd
      · by_cases hl8 : l < 8
        · have g := g_hv h.1.1 (8 * n + l)
          have ht := g_turn (S := S) (nd := n) (l := l)
          have ex : ∀ N : j_M, xX11_node (nI n) (nI l) f (XS N 2 S) = osw f [((nI 0), some (nI (S 14 (8 * n + l)), XS N 2 S)), ((nI 1), some (nI (S 70 (8 * n + l)), XS N 2 S)), ((nI 2), some (nI (S 126 (8 * n + l)), XS N 2 S)), ((nI 3), (if S 126 (8 * n + l) = 0 then some ((-1 : Int32), XS N 2 S) else some (nI (S 182 (8 * n + l)), XS N 2 S))), ((nI 4), some (oI (a_turn S n l), XS N 2 S)), ((nI 5), (if n = 6 then some ((-1 : Int32), XS N 2 S) else some (oI (S 538 (8 * n + l)), XS N 2 S))), ((nI 6), (if n = 6 then some ((-1 : Int32), XS N 2 S) else some (oI (a_used S n l), XS N 2 S)))] (some ((-2 : Int32), XS N 2 S)) := by
            intro N
            unfold xX11_node
            rw [x_isNode h.1.1 hn, if_pos hnN, e_obi2, if_neg (by decide), x_isLine hl, if_pos hl8, e_obi2, if_neg (by decide), x_held (by omega) hl8, e_obi2, hc_ h.1.1, e_obi2, ho_ h.1.1, e_obi2, hl_ h.1.1, e_obi2, e_obi2, hd_ h.1.1, e_obi2, x_turn h.1.1 (by omega) hl8, e_obi2]
            have q1 : (if nI (S 70 (8 * n + l)) = (0 : Int32) then some (nI 0, XS N 2 S) else some (nI 1, XS N 2 S)) = some (nI (S 70 (8 * n + l)), XS N 2 S) := by
              rw [f_eq0 (by omega)]
              by_cases e : S 70 (8 * n + l) = 0
              · rw [if_pos e, e]
              · rw [if_neg e, show S 70 (8 * n + l) = 1 by omega]
            have q2 : (if nI (S 126 (8 * n + l)) = (0 : Int32) then some (nI 0, XS N 2 S) else some (nI 1, XS N 2 S)) = some (nI (S 126 (8 * n + l)), XS N 2 S) := by
              rw [f_eq0 (by omega)]
              by_cases e : S 126 (8 * n + l) = 0
              · rw [if_pos e, e]
              · rw [if_neg e, show S 126 (8 * n + l) = 1 by omega]
            rw [q1, q2]
            simp (disch := omega) only [e_eq0, e_eq]
            by_cases h6 : n = 6
            · simp only [h6, if_true]
            · rw [x_placeByUse h.1.1 (by omega) hl8, e_obi2]
              simp only [h6, if_false]
              simp (disch := omega) only [e_gd, e_ix, e_oli2, e_oml2, e_obi2, e_obv2, e_add, e_mul, e_sub, e_eq, e_lt, e_le, e_eq0, e_0eq, e_lt0, e_0lt, e_le0, e_0le, e_m1, e_m1', e_m1lt, Nat.add_assoc, Nat.not_lt_zero, Nat.le_zero_eq, Nat.reduceAdd, y_4, y_5, y_6, y_7, y_8, y_11, y_12, y_13, y_14, y_15, y_16, y_17, y_18, y_19, y_20, y_21, y_10_11, y_10_12, y_10_13, y_10_14, xr_0_8, xr_0_9, xr_0_10, xr_0_11, xr_0_12, xr_0_13, xr_0_14, Nat.mul_comm n 8]
          have er : ∀ N : j_M, xX12_node (nI n) (nI l) f (RS N S) = osw f [((nI 0), some (nI (S 14 (8 * n + l)), RS N S)), ((nI 1), some (nI (S 70 (8 * n + l)), RS N S)), ((nI 2), some (nI (S 126 (8 * n + l)), RS N S)), ((nI 3), (if S 126 (8 * n + l) = 0 then some ((-1 : Int32), RS N S) else some (nI (S 182 (8 * n + l)), RS N S))), ((nI 4), some (oI (a_turn S n l), RS N S)), ((nI 5), (if n = 6 then some ((-1 : Int32), RS N S) else some (oI (S 538 (8 * n + l)), RS N S))), ((nI 6), (if n = 6 then some ((-1 : Int32), RS N S) else some (oI (a_used S n l), RS N S)))] (some ((-2 : Int32), RS N S)) := by
            intro N
            unfold xX12_node
            rw [r_isNode h.1.1 (by omega) hn, if_pos hnN, e_obi2, if_neg (by decide), q_isLine hl, if_pos hl8, e_obi2, if_neg (by decide), m_place, e_obi2, q_turn h.1.1 (by omega) hl8, e_obi2]
            have q3 : (if nI (S 126 (8 * n + l)) = nI 1 then some (nI (S 182 (8 * n + l)), RS N S) else some ((-1 : Int32), RS N S)) = (if S 126 (8 * n + l) = 0 then some ((-1 : Int32), RS N S) else some (nI (S 182 (8 * n + l)), RS N S)) := by
              rw [f_eq (by omega) (by omega)]
              by_cases e : S 126 (8 * n + l) = 0
              · rw [if_neg (by omega), if_pos e]
              · rw [if_pos (by omega), if_neg e]
            by_cases h6 : n = 6
            · simp only [h6, if_true] at q3 ⊢
              simp (disch := omega) only [e_gd, e_ix, e_oli2, e_add, sr_14, sr_70, sr_126, sr_182, q3]
            · have q9 := r_usedAt (N := N) (S := S) (c := n) (l := l) (g_8 h.1.1 238 n (Or.inl rfl)) (by omega) hl8 (fun i _ => g_l h.1.1 244 i (Or.inl rfl))
              rw [q9, e_obi2]
              simp (disch := omega) only [e_gd, e_ix, e_oli2, e_add, sr_14, sr_70, sr_126, sr_182, sr_538, q3]
              simp (disch := omega) only [e_eq]
          rcases i_cases f with ⟨k, hk, rfl⟩ | hf
          · have ck : k = 0 ∨ k = 1 ∨ k = 2 ∨ k = 3 ∨ k = 4 ∨ k = 5 ∨ k = 6 ∨ 7 ≤ k := by omega
            rcases ck with rfl | rfl | rfl | rfl | rfl | rfl | rfl | hk7
            · exact OPN_q h (nI (S 14 (8 * n + l))) (fun N _ => by rw [ex]; simp (disch := omega) only [e_osw, e_eq, Nat.reduceEqDiff, if_true, if_false]) (fun N => by rw [er]; simp (disch := omega) only [e_osw, e_eq, Nat.reduceEqDiff, if_true, if_false])
            · exact OPN_q h (nI (S 70 (8 * n + l))) (fun N _ => by rw [ex]; simp (disch := omega) only [e_osw, e_eq, Nat.reduceEqDiff, if_true, if_false]) (fun N => by rw [er]; simp (disch := omega) only [e_osw, e_eq, Nat.reduceEqDiff, if_true, if_false])
            · exact OPN_q h (nI (S 126 (8 * n + l))) (fun N _ => by rw [ex]; simp (disch := omega) only [e_osw, e_eq, Nat.reduceEqDiff, if_true, if_false]) (fun N => by rw [er]; simp (disch := omega) only [e_osw, e_eq, Nat.reduceEqDiff, if_true, if_false])
            · refine OPN_q h (if S 126 (8 * n + l) = 0 then (-1 : Int32) else nI (S 182 (8 * n + l))) (fun N _ => ?_) (fun N => ?_)
              · rw [ex]; simp (disch := omega) only [e_osw, e_eq, Nat.reduceEqDiff, if_true, if_false]; split <;> rfl
              · rw [er]; simp (disch := omega) only [e_osw, e_eq, Nat.reduceEqDiff, if_true, if_false]; split <;> rfl
            · exact OPN_q h (oI (a_turn S n l)) (fun N _ => by rw [ex]; simp (disch := omega) only [e_osw, e_eq, Nat.reduceEqDiff, if_true, if_false]) (fun N => by rw [er]; simp (disch := omega) only [e_osw, e_eq, Nat.reduceEqDiff, if_true, if_false])
            · refine OPN_q h (if n = 6 then (-1 : Int32) else oI (S 538 (8 * n + l))) (fun N _ => ?_) (fun N => ?_)
              · rw [ex]; simp (disch := omega) only [e_osw, e_eq, Nat.reduceEqDiff, if_true, if_false]; split <;> rfl
              · rw [er]; simp (disch := omega) only [e_osw, e_eq, Nat.reduceEqDiff, if_true, if_false]; split <;> rfl
            · refine OPN_q h (if n = 6 then (-1 : Int32) else oI (a_used S n l)) (fun N _ => ?_) (fun N => ?_)
              · rw [ex]; simp (disch := omega) only [e_osw, e_eq, Nat.reduceEqDiff, if_true, if_false]; split <;> rfl
              · rw [er]; simp (disch := omega) only [e_osw, e_eq, Nat.reduceEqDiff, if_true, if_false]; split <;> rfl
            · refine hno (fun N => ?_) (fun N => ?_)
              · rw [ex]
                simp (disch := omega) only [e_osw, e_osw0, e_eq]
                rw [if_neg (by omega), if_neg (by omega), if_neg (by omega), if_neg (by omega), if_neg (by omega), if_neg (by omega), if_neg (by omega)]
              · rw [er]
                simp (disch := omega) only [e_osw, e_osw0, e_eq]
                rw [if_neg (by omega), if_neg (by omega), if_neg (by omega), if_neg (by omega), if_neg (by omega), if_neg (by omega), if_neg (by omega)]
          · refine hno (fun N => ?_) (fun N => ?_)
            · rw [ex]; simp (disch := omega) only [e_osw, e_osw0, neg_eq hf, if_false]
            · rw [er]; simp (disch := omega) only [e_osw, e_osw0, neg_eq hf, if_false]
        · refine hno (fun N => ?_) (fun N => ?_)
          · unfold xX11_node
            rw [x_isNode h.1.1 hn, if_pos hnN, e_obi2, if_neg (by decide), x_isLine hl, if_neg hl8, e_obi2, if_pos (by decide)]
          · unfold xX12_node
            rw [r_isNode h.1.1 (by omega) hn, if_pos hnN, e_obi2, if_neg (by decide), q_isLine hl, if_neg hl8, e_obi2, if_pos (by decide)]
      · refine hno (fun N => ?_) (fun N => ?_)
        · unfold xX11_node
          rw [x_isNode h.1.1 hn, if_pos hnN, e_obi2, if_neg (by decide), x_isLineN hd, e_obi2, if_pos (by decide)]
        · unfold xX12_node
          rw [r_isNode h.1.1 (by omega) hn, if_pos hnN, e_obi2, if_neg (by decide), q_isLineN hd, e_obi2, if_pos (by decide)]
    · refine hno (fun N => ?_) (fun N => ?_)
      · unfold xX11_node
        rw [x_isNode h.1.1 hn, if_neg hnN, e_obi2, if_pos (by decide)]
      · unfold xX12_node
        rw [r_isNode h.1.1 (by omega) hn, if_neg hnN, e_obi2, if_pos (by decide)]
  · refine hno (fun N => ?_) (fun N => ?_)
    · unfold xX11_node
      rw [x_isNodeN ha, e_obi2, if_pos (by decide)]
    · unfold xX12_node
      rw [q_isNodeN h.1.1 (by omega) ha, e_obi2, if_pos (by decide)]
theorem el_ {S : a_S} {i : Nat} {M : j_M} (h : RG S) : xX2_line (nI (ev S i)) M = some (nI (S 400 i), M) := v_line (g_ev h i).1 (g_ev h i).2.1 (g_ev h i).2.2.1 (g_ev h i).2.2.2.1 (g_ev h i).2.2.2.2
theorem ei_ {S : a_S} {i : Nat} {M : j_M} (h : RG S) : xX2_isActive (nI (ev S i)) M = some (nI (S 358 i), M) := v_isact (g_ev h i).1
theorem op_table {S : a_S} {b : Nat} (a d f : Int32) (h : OKS S b) : OPN (xX11_table a d f) (xX12_table a d f) S b := by
  have hN := g_n h.1.1
  have sc := h.1.2.2.2.2.2.2.1
  unfold SC at sc
  have hno : ∀ (_ : ∀ N : j_M, xX11_table a d f (XS N 2 S) = some (-1, XS N 2 S)) (_ : ∀ N : j_M, xX12_table a d f (RS N S) = some (-1, RS N S)), OPN (xX11_table a d f) (xX12_table a d f) S b := fun h1 h2 => OPN_q h (-1) (fun N _ => h1 N) h2
  rcases i_cases a with ⟨n, hn, rfl⟩ | ha
  · by_cases hnN : n < S 1 0 ∨ n = 6
    · rcases i_cases d with ⟨c, hc, rfl⟩ | hd
      · by_cases hcN : c < S 1 0
        · have g := g_ev h.1.1 (6 * n + c)
          have ex : ∀ N : j_M, xX11_table (nI n) (nI c) f (XS N 2 S) = osw f [((nI 0), some (nI (S 316 (6 * n + c)), XS N 2 S)), ((nI 1), some (nI (S 358 (6 * n + c)), XS N 2 S)), ((nI 2), some (nI (S 400 (6 * n + c)), XS N 2 S)), ((nI 3), some (nI (S 442 (6 * n + c)), XS N 2 S)), ((nI 4), some (nI (S 484 (6 * n + c)), XS N 2 S))] (some ((-1 : Int32), XS N 2 S)) := by
            intro N
            unfold xX11_table
            rw [x_isNode h.1.1 hn, if_pos hnN, e_obi2, if_neg (by decide), x_isCpu h.1.1 hc, if_pos hcN, e_obi2, if_neg (by decide), x_entry (by omega) (by omega), e_obi2, es_ h.1.1, e_obi2, ei_ h.1.1, e_obi2, el_ h.1.1, e_obi2, ew_ h.1.1, e_obi2, ma_ h.1.1, e_obi2]
            have q1 : (if nI (S 358 (6 * n + c)) = (0 : Int32) then some (nI 0, XS N 2 S) else some (nI 1, XS N 2 S)) = some (nI (S 358 (6 * n + c)), XS N 2 S) := by
              rw [f_eq0 (by omega)]
              by_cases e : S 358 (6 * n + c) = 0
              · rw [if_pos e, e]
              · rw [if_neg e, show S 358 (6 * n + c) = 1 by omega]
            have q2 : (if nI (S 484 (6 * n + c)) = (0 : Int32) then some (nI 0, XS N 2 S) else some (nI 1, XS N 2 S)) = some (nI (S 484 (6 * n + c)), XS N 2 S) := by
              rw [f_eq0 (by omega)]
              by_cases e : S 484 (6 * n + c) = 0
              · rw [if_pos e, e]
              · rw [if_neg e, show S 484 (6 * n + c) = 1 by omega]
            rw [q1, q2]
          have er : ∀ N : j_M, xX12_table (nI n) (nI c) f (RS N S) = osw f [((nI 0), some (nI (S 316 (6 * n + c)), RS N S)), ((nI 1), some (nI (S 358 (6 * n + c)), RS N S)), ((nI 2), some (nI (S 400 (6 * n + c)), RS N S)), ((nI 3), some (nI (S 442 (6 * n + c)), RS N S)), ((nI 4), some (nI (S 484 (6 * n + c)), RS N S))] (some ((-1 : Int32), RS N S)) := by
            intro N
            unfold xX12_table
            rw [r_isNode h.1.1 (by omega) hn, if_pos hnN, e_obi2, if_neg (by decide), r_isCpu h.1.1 (by omega) hc, if_pos hcN, e_obi2, if_neg (by decide)]
            simp (disch := omega) only [e_gd, e_ix, e_oli2, e_oml2, e_obi2, e_obv2, e_add, e_mul, e_sub, e_eq, e_lt, e_le, e_eq0, e_0eq, e_lt0, e_0lt, e_le0, e_0le, e_m1, e_m1', e_m1lt, Nat.add_assoc, Nat.not_lt_zero, Nat.le_zero_eq, sr_1, sr_14, sr_70, sr_126, sr_182, sr_238, sr_244, sr_292, sr_298, sr_304, sr_310, sr_316, sr_358, sr_400, sr_442, sr_484, sr_526, sr_532, sr_538, so_586, sr_586, sr_2746, sr_2752, sr_3112, sr_3118, sr_3124, sr_3130, sr_6730, sr_6736, sr_6766, sr_6814, sr_6961, sr_6962, sr_7362, sr_7363, sr_7364, su_6961, su_7362, su_7363]
          rcases i_cases f with ⟨k, hk, rfl⟩ | hf
          · have ck : k = 0 ∨ k = 1 ∨ k = 2 ∨ k = 3 ∨ k = 4 ∨ 5 ≤ k := by omega
            rcases ck with rfl | rfl | rfl | rfl | rfl | hk7
            · exact OPN_q h (nI (S 316 (6 * n + c))) (fun N _ => by rw [ex]; simp (disch := omega) only [e_osw, e_eq, Nat.reduceEqDiff, if_true, if_false]) (fun N => by rw [er]; simp (disch := omega) only [e_osw, e_eq, Nat.reduceEqDiff, if_true, if_false])
            · exact OPN_q h (nI (S 358 (6 * n + c))) (fun N _ => by rw [ex]; simp (disch := omega) only [e_osw, e_eq, Nat.reduceEqDiff, if_true, if_false]) (fun N => by rw [er]; simp (disch := omega) only [e_osw, e_eq, Nat.reduceEqDiff, if_true, if_false])
            · exact OPN_q h (nI (S 400 (6 * n + c))) (fun N _ => by rw [ex]; simp (disch := omega) only [e_osw, e_eq, Nat.reduceEqDiff, if_true, if_false]) (fun N => by rw [er]; simp (disch := omega) only [e_osw, e_eq, Nat.reduceEqDiff, if_true, if_false])
            · exact OPN_q h (nI (S 442 (6 * n + c))) (fun N _ => by rw [ex]; simp (disch := omega) only [e_osw, e_eq, Nat.reduceEqDiff, if_true, if_false]) (fun N => by rw [er]; simp (disch := omega) only [e_osw, e_eq, Nat.reduceEqDiff, if_true, if_false])
            · exact OPN_q h (nI (S 484 (6 * n + c))) (fun N _ => by rw [ex]; simp (disch := omega) only [e_osw, e_eq, Nat.reduceEqDiff, if_true, if_false]) (fun N => by rw [er]; simp (disch := omega) only [e_osw, e_eq, Nat.reduceEqDiff, if_true, if_false])
            · refine hno (fun N => ?_) (fun N => ?_)
              · rw [ex]
                simp (disch := omega) only [e_osw, e_osw0, e_eq]
                rw [if_neg (by omega), if_neg (by omega), if_neg (by omega), if_neg (by omega), if_neg (by omega)]
              · rw [er]
                simp (disch := omega) only [e_osw, e_osw0, e_eq]
                rw [if_neg (by omega), if_neg (by omega), if_neg (by omega), if_neg (by omega), if_neg (by omega)]
          · refine hno (fun N => ?_) (fun N => ?_)
            · rw [ex]; simp (disch := omega) only [e_osw, e_osw0, neg_eq hf, if_false]
            · rw [er]; simp (disch := omega) only [e_osw, e_osw0, neg_eq hf, if_false]
        · refine hno (fun N => ?_) (fun N => ?_)
          · unfold xX11_table
            rw [x_isNode h.1.1 hn, if_pos hnN, e_obi2, if_neg (by decide), x_isCpu h.1.1 hc, if_neg hcN, e_obi2, if_pos (by decide)]
          · unfold xX12_table
            rw [r_isNode h.1.1 (by omega) hn, if_pos hnN, e_obi2, if_neg (by decide), r_isCpu h.1.1 (by omega) hc, if_neg hcN, e_obi2, if_pos (by decide)]
      · refine hno (fun N => ?_) (fun N => ?_)
        · unfold xX11_table
          rw [x_isNode h.1.1 hn, if_pos hnN, e_obi2, if_neg (by decide), x_isCpuN hd, e_obi2, if_pos (by decide)]
        · unfold xX12_table
          rw [r_isNode h.1.1 (by omega) hn, if_pos hnN, e_obi2, if_neg (by decide), q_isCpuN h.1.1 (by omega) hd, e_obi2, if_pos (by decide)]
    · refine hno (fun N => ?_) (fun N => ?_)
      · unfold xX11_table
        rw [x_isNode h.1.1 hn, if_neg hnN, e_obi2, if_pos (by decide)]
      · unfold xX12_table
        rw [r_isNode h.1.1 (by omega) hn, if_neg hnN, e_obi2, if_pos (by decide)]
  · refine hno (fun N => ?_) (fun N => ?_)
    · unfold xX11_table
      rw [x_isNodeN ha, e_obi2, if_pos (by decide)]
    · unfold xX12_table
      rw [q_isNodeN h.1.1 (by omega) ha, e_obi2, if_pos (by decide)]
