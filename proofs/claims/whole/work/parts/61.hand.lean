/-! ===== the class: the order of use, tokens given ===== -/
theorem sm_tail {g : Nat → Nat} {q : Nat} : ∀ (n : Nat), q ≤ n → (∀ j, q ≤ j → j < n → g j = 0) → sm g n = sm g q
  | 0, h, _ => by rw [show q = 0 by omega]
  | n + 1, h, hz => by
    by_cases hq : q = n + 1
    · rw [hq]
    · rw [sm_s, sm_tail n (by omega) (fun j h1 h2 => hz j h1 (by omega)), hz n (by omega) (by omega), Nat.add_zero]
theorem fo_ne {S : a_S} {c l r x : Nat} (hr : RG S) (h : ¬ ((r = 238 ∧ x = c) ∨ (r = 244 ∧ 8 * c ≤ x ∧ x < 8 * c + 8))) : a_forget S c l r x = S r x := by
  have h8 := g_8 hr 238 c (Or.inl rfl)
  by_cases h1 : r = 238
  · subst h1
    exact fo_oth (by omega)
  · by_cases h2 : r = 244
    · subst h2
      unfold a_forget
      by_cases h0 : a_used S c l = 0
      · rw [if_pos h0]
      · have hu : a_used S c l ≤ S 238 c := by have := fr_le (P := fun k => S 244 (8 * c + k) = l) (S 238 c) 0; unfold a_used; omega
        rw [if_neg h0]
        unfold a_shift
        rw [if_pos rfl, if_neg (by omega), if_neg (by omega), sw_r (by omega)]
    · exact fo_o ⟨h1, h2⟩
theorem us_ne {S : a_S} {c l r x : Nat} (hr : RG S) (h7 : a_forget S c l 238 c ≤ 7) (h : ¬ ((r = 238 ∧ x = c) ∨ (r = 244 ∧ 8 * c ≤ x ∧ x < 8 * c + 8))) : a_use S c l r x = S r x := by
  unfold a_use
  rw [sw_ne (by omega), sw_ne (by omega), fo_ne hr h]
theorem ud_lt {S : a_S} (h : RG S) (c k : Nat) : ud S c k < 16 := by
  have := g_l h 244 (8 * c + k) (Or.inl rfl)
  unfold ud
  split <;> omega
theorem uo_lt {S : a_S} (h : RG S) (c : Nat) : uo S c < 4294967296 := dg_lt (ud_lt h c) 8
theorem uo_nib {S : a_S} (h : RG S) (c k : Nat) (hk : k < 8) : uo S c / 16 ^ k % 16 = ud S c k := dg_nib (ud_lt h c) 8 k hk
def a_p (S : a_S) (c l : Nat) : Nat := if a_used S c l = 0 then 8 else a_used S c l - 1
theorem a_p1 {S : a_S} {c l : Nat} (h8 : S 238 c ≤ 8) (hu : UD S) (hc : c < 6) : ∀ k, k < S 238 c → (ud S c k = l + 1 ↔ k = a_p S c l) := by
  intro k hk
  unfold ud a_p
  rw [if_pos hk]
  by_cases h0 : a_used S c l = 0
  · rw [if_pos h0]
    have := fr_0 (P := fun k => S 244 (8 * c + k) = l) _ _ h0 k (by omega) (by omega)
    constructor
    · intro h9; omega
    · intro h9
      subst h9
      exfalso
      omega
  · rw [if_neg h0]
    have hp := fr_p (P := fun k => S 244 (8 * c + k) = l) _ _ h0
    rw [show fr (fun k => S 244 (8 * c + k) = l) (S 238 c) 0 = a_used S c l from rfl] at hp
    have hp1 := hp.1
    constructor
    · intro h9
      by_cases e1 : k < a_used S c l - 1
      · have := hu c hc k (a_used S c l - 1) e1 (by omega)
        omega
      · by_cases e2 : a_used S c l - 1 < k
        · have := hu c hc (a_used S c l - 1) k e2 hk
          omega
        · omega
    · intro h9
      rw [h9]
      omega
theorem a_p2 {S : a_S} {c l : Nat} (h8 : S 238 c ≤ 8) : ∀ k, k < 8 → ud (a_forget S c l) c k = if k < a_p S c l then ud S c k else ud S c (k + 1) := by
  intro k hk
  have hf := fo_238 (S := S) (c := c) (l := l)
  unfold ud a_p
  by_cases h0 : a_used S c l = 0
  · rw [if_pos h0] at hf ⊢
    rw [if_pos hk, hf]
    unfold a_forget
    rw [if_pos h0]
  · have hu : a_used S c l ≤ S 238 c := by have := fr_le (P := fun k => S 244 (8 * c + k) = l) (S 238 c) 0; unfold a_used; omega
    rw [if_neg h0] at hf ⊢
    rw [hf]
    have e4 : k < S 238 c - 1 → a_forget S c l 244 (8 * c + k) = if a_used S c l - 1 ≤ k then S 244 (8 * c + (k + 1)) else S 244 (8 * c + k) := by
      intro hk1
      unfold a_forget
      rw [if_neg h0]
      unfold a_shift
      rw [if_pos rfl]
      by_cases c1 : a_used S c l - 1 ≤ k
      · rw [if_pos (by omega), if_pos c1, sw_r (by omega), Nat.add_assoc]
      · rw [if_neg (by omega), if_neg (by omega), if_neg c1, sw_r (by omega)]
    by_cases c1 : k < a_used S c l - 1
    · rw [if_pos c1, if_pos (by omega), if_pos (by omega), e4 (by omega), if_neg (by omega)]
    · rw [if_neg c1]
      by_cases c2 : k < S 238 c - 1
      · rw [if_pos c2, if_pos (by omega), e4 c2, if_pos (by omega)]
      · rw [if_neg c2, if_neg (by omega)]
theorem a_p3 {S : a_S} {c l : Nat} (h8 : S 238 c ≤ 8) : (if a_p S c l < S 238 c then S 238 c - 1 else S 238 c) = a_forget S c l 238 c := by
  rw [fo_238]
  unfold a_p
  by_cases h0 : a_used S c l = 0
  · rw [if_pos h0, if_pos h0, if_neg (by omega)]
  · have hu : a_used S c l ≤ S 238 c := by have := fr_le (P := fun k => S 244 (8 * c + k) = l) (S 238 c) 0; unfold a_used; omega
    rw [if_neg h0, if_neg h0, if_pos (by omega)]
theorem uo_fo {S : a_S} {c l : Nat} (hr : RG S) : sm (fun j => ud (a_forget S c l) c j * 16 ^ j) (a_forget S c l 238 c) = uo (a_forget S c l) c := by
  have h8 := g_8 (RG_forget (c := c) (l := l) hr) 238 c (Or.inl rfl)
  refine (sm_tail 8 h8 (fun j h1 _ => ?_)).symm
  unfold ud
  rw [if_neg (by omega), Nat.zero_mul]
theorem x_reo2 {N : j_M} {t c l u : Nat} {S : a_S} (ht : t ≠ 0) (h : RG S) (hu : UD S) (hc : c < 6) (hl : l < 8) : xX1_reorder t (nI (bk c)) (nI l) (nI u) (XS N t S) = xX1_reorder_24 t (999991 + 1) (nI l) (nI u) (nI (bk c + 14)) (nI (uo S c)) (nI (uo (a_forget S c l) c)) (nI (4 * a_forget S c l 238 c)) (nI 32) (XS N t S) := by
  have hb := bk_le c
  have h8 := g_8 h 238 c (Or.inl rfl)
  have e := x_reo (t := t) (u := u) (at' := bk c + 14) (B := uo S c) (l := l) (U := S 238 c) (p := a_p S c l) (d := ud S c) (e := ud (a_forget S c l) c) (M := XS N t S) hl (uo_lt h c) (ud_lt h c) (ud_lt (RG_forget h) c) (uo_nib h c) h8 (fun k hk => by unfold ud; split <;> omega) (a_p1 h8 hu hc) (a_p2 h8) 8 999991 0 0 (by omega) (by rw [Nat.zero_min]; split <;> omega)
  rw [a_p3 h8, uo_fo h] at e
  unfold xX1_reorder
  simp (disch := omega) only [e_gd, e_ix, e_oli2, e_oml2, e_obi2, e_obv2, e_add, e_mul, e_sub, e_eq, e_lt, e_le, e_eq0, e_0eq, e_lt0, e_0lt, e_le0, e_0le, e_m1, e_m1', e_m1lt, Nat.add_assoc, Nat.not_lt_zero, Nat.le_zero_eq, Nat.reduceAdd, xr_4, xr_5, xr_6, xr_7, xr_13, xr_14, xr_3, xr_10, xr_11, xr_12, xr_15, xr_16, xr_17, xr_18, xr_19, xr_0_8, xr_0_9, xr_0_10, xr_0_11, xr_0_12, xr_0_13, xr_0_14, xr_8_11, xr_8_12, xr_8_13, xr_8_14, xr_h, xr_e, xr_u, xr_m, xr_2, xr_9]
  rw [fu_s 9 (by omega), show 1000000 - 9 + 9 = 999991 + 8 + 1 by omega]
  exact e
theorem x_forget {N : j_M} {t c l : Nat} {S : a_S} (ht : t ≠ 0) (h : RG S) (hu : UD S) (hc : c < 6) (hl : l < 8) : xX1_reorder t (nI (bk c)) (nI l) (nI 0) (XS N t S) = some (XS N t (a_forget S c l)) := by
  have hb := bk_le c
  rw [x_reo2 ht h hu hc hl, xX1_reorder_24.eq_2]
  unfold xX1_reorder_97
  simp (disch := omega) only [e_gd, e_ix, e_oli2, e_oml2, e_obi2, e_obv2, e_add, e_mul, e_sub, e_eq, e_lt, e_le, e_eq0, e_0eq, e_lt0, e_0lt, e_le0, e_0le, e_m1, e_m1', e_m1lt, Nat.add_assoc, Nat.not_lt_zero, Nat.le_zero_eq, if_pos, if_true]
  rw [xw_u (S' := a_forget S c l) ht hc rfl (fun r x hx => fo_ne h hx)]
theorem x_use {N : j_M} {t c l : Nat} {S : a_S} (ht : t ≠ 0) (h : RG S) (hu : UD S) (hc : c < 6) (hl : l < 8) : xX1_reorder t (nI (bk c)) (nI l) (nI 1) (XS N t S) = some (XS N t (a_use S c l)) := by
  have hb := bk_le c
  have h7 := UD_f7 h hu hc hl
  have e8 : a_use S c l 238 c = a_forget S c l 238 c + 1 := by unfold a_use; rw [sw_at]
  have e1 : ∀ k, ud (a_use S c l) c k = if k < a_forget S c l 238 c then ud (a_forget S c l) c k else if k = a_forget S c l 238 c then l + 1 else 0 := by
    intro k
    unfold ud
    rw [e8]
    by_cases k1 : k < a_forget S c l 238 c
    · rw [if_pos (by omega), if_pos k1, if_pos k1]
      unfold a_use
      rw [sw_r (by omega), sw_i (by omega)]
    · rw [if_neg k1]
      by_cases k2 : k = a_forget S c l 238 c
      · rw [if_pos (by omega), if_pos k2]
        unfold a_use
        rw [sw_r (by omega), k2, sw_at]
      · rw [if_neg (by omega), if_neg k2]
  have e : nI (uo (a_forget S c l) c ||| (l + 1) * 2 ^ (4 * a_forget S c l 238 c)) = nI (uo (a_use S c l) c) := by
    rw [← uo_fo h, dg_or (ud_lt (RG_forget h) c)]
    unfold uo
    rw [sm_tail (q := a_forget S c l 238 c + 1) 8 (by omega) (fun j h1 _ => by rw [e1, if_neg (by omega), if_neg (by omega), Nat.zero_mul]), sm_s, e1 (a_forget S c l 238 c), if_neg (by omega), if_pos rfl]
    congr 2
    apply sm_c
    intro i hi
    rw [e1, if_pos hi]
  have es := e_shl (n := l + 1) (k := 4 * a_forget S c l 238 c) (by omega) (sh_lt (by omega) (by omega))
  rw [x_reo2 ht h hu hc hl, xX1_reorder_24.eq_2]
  unfold xX1_reorder_97
  simp (disch := omega) only [e_gd, e_ix, e_oli2, e_oml2, e_obi2, e_obv2, e_add, e_mul, e_sub, e_eq, e_lt, e_le, e_eq0, e_0eq, e_lt0, e_0lt, e_le0, e_0le, e_m1, e_m1', e_m1lt, Nat.add_assoc, Nat.not_lt_zero, Nat.le_zero_eq, if_pos, if_neg, es, e_or]
  rw [xw_u (S' := a_use S c l) ht hc e (fun r x hx => us_ne h h7 hx)]
/-- sending and what it leaves alone -/
theorem as_sw {S : a_S} {f t k l mn ow wi nt wh r i v : Nat} (h : r ≠ 586 ∧ r ≠ 6814 ∧ ¬ (r = 1 ∧ i = 7)) : a_send (sw S r i v) f t k l mn ow wi nt wh = sw (a_send S f t k l mn ow wi nt wh) r i v := by
  have e7 : sw S r i v 1 7 = S 1 7 := sw_ne (by omega)
  funext x j
  unfold a_send
  rw [e7]
  by_cases h1 : x = 586
  · subst h1
    simp only [if_true]
    rw [sw_r (fun e => h.1 e.symm), sw_r (fun e => h.1 e.symm), if_pos rfl]
  · by_cases h2 : x = 6814
    · subst h2
      simp only [Nat.reduceEqDiff, if_false, if_true]
      rw [sw_r (fun e => h.2.1 e.symm), sw_r (fun e => h.2.1 e.symm)]
      simp only [Nat.reduceEqDiff, if_false, if_true]
    · by_cases h3 : x = 1
      · subst h3
        simp only [Nat.reduceEqDiff, if_false, if_true]
        unfold sw
        simp only [Nat.reduceEqDiff, if_false, if_true]
        (repeat' split) <;> first | rfl | (exfalso; omega)
      · simp only [h1, h2, h3, if_false]
        unfold sw
        simp only [h1, h2, h3, if_false]
theorem as_sh {S : a_S} {f t k l mn ow wi nt wh c p U : Nat} : a_send (a_shift S c p U) f t k l mn ow wi nt wh = a_shift (a_send S f t k l mn ow wi nt wh) c p U := by
  funext x j
  by_cases h4 : x = 244
  · subst h4
    rw [as_o (by omega)]
    unfold a_shift
    simp only [if_true]
    simp (disch := omega) only [as_o]
  · have e : ∀ y z, y ≠ 244 → a_shift S c p U y z = S y z := fun y z hy => by unfold a_shift; rw [if_neg hy]
    conv => rhs; unfold a_shift
    rw [if_neg h4]
    unfold a_send
    simp only [e 586 _ (by omega), e 1 _ (by omega), e 6814 _ (by omega), e x _ h4]
theorem as_used {S : a_S} {f t k l mn ow wi nt wh c x : Nat} : a_used (a_send S f t k l mn ow wi nt wh) c x = a_used S c x := by
  unfold a_used
  simp (disch := omega) only [as_o]
theorem as_fo {S : a_S} {f t k l mn ow wi nt wh c x : Nat} : a_send (a_forget S c x) f t k l mn ow wi nt wh = a_forget (a_send S f t k l mn ow wi nt wh) c x := by
  unfold a_forget
  rw [as_used]
  split
  · rfl
  · rw [as_sh, as_sw (by omega), as_o (by omega)]
theorem as_sh4 {S : a_S} {f t k l mn ow wi nt wh i c o v d : Nat} : a_send (sh4 S i c o v d) f t k l mn ow wi nt wh = sh4 (a_send S f t k l mn ow wi nt wh) i c o v d := by
  unfold sh4
  rw [as_sw (by omega), as_sw (by omega), as_sw (by omega), as_sw (by omega)]
theorem gives1_nf {S : a_S} {nd t l mn ow da : Nat} : a_gives1 S nd t l mn ow da = a_send (sh4 S (8 * nd + l) (S 14 (8 * nd + l) - mn) (if ow = 0 then S 70 (8 * nd + l) else 0) (S 126 (8 * nd + l)) (S 182 (8 * nd + l))) nd t 3 l mn ow (if da = 0 then 0 else S 182 (8 * nd + l) + 1) 0 0 := by
  rw [as_sh4]
  unfold sh4 a_gives1 a_gives0
  by_cases h : ow = 0
  · rw [if_pos h, if_pos h, sw_same (r := 182) (by simp (disch := omega) only [sw_r, as_o]), sw_same (r := 126) (by simp (disch := omega) only [sw_r, as_o]), sw_same (r := 70) (by simp (disch := omega) only [sw_r, as_o])]
  · rw [if_neg h, if_neg h, sw_same (r := 182) (by simp (disch := omega) only [sw_r, as_o]), sw_same (r := 126) (by simp (disch := omega) only [sw_r, as_o])]
theorem gives2_nf {S : a_S} {nd t l mn ow da : Nat} (h0 : S 14 (8 * nd + l) - mn = 0) (ho : ow = 0 → S 70 (8 * nd + l) = 0) : a_gives2 S nd t l mn ow da = a_send (sh4 S (8 * nd + l) 0 0 0 0) nd t 3 l mn ow (if da = 0 then 0 else S 182 (8 * nd + l) + 1) 0 0 := by
  rw [as_sh4]
  unfold sh4 a_gives2 a_gives1 a_gives0
  rw [h0]
  by_cases h : ow = 0
  · rw [if_pos h, sw_same (r := 70) (by simp (disch := omega) only [sw_r, as_o]; exact (ho h).symm)]
  · rw [if_neg h]
theorem RG_sh4 {S : a_S} {i c o v d : Nat} (h : RG S) (hc : c ≤ 12) (ho : o < 2) (hv : v < 2) (hd : d < 10000) : RG (sh4 S i c o v d) := by
  unfold sh4
  exact RG_sw (RG_sw (RG_sw (RG_sw h (by unfold rg; omega)) (by unfold rg; omega)) (by unfold rg; omega)) (by unfold rg; omega)
theorem UD_sh4 {S : a_S} {i c o v d : Nat} (h : UD S) : UD (sh4 S i c o v d) := UD_c h (fun j => sh4_ne (by omega)) (fun j => sh4_ne (by omega))
theorem x_hand {N : j_M} {t nd to l mn ow da : Nat} {S : a_S} (ht : t ≠ 0) (h : RG S) (hu : UD S) (hq : S 1 7 < 240) (hd : nd < 7) (hto : to < 7) (hl : l < 8) (how : ow < 2) (hda : da < 2) (hm : mn < S 14 (8 * nd + l) ∨ (mn = S 14 (8 * nd + l) ∧ ow = S 70 (8 * nd + l))) (ho1 : ow = 1 → S 70 (8 * nd + l) = 1) : xX1_hand t (nI nd) (nI to) (nI l) (nI mn) (nI ow) (nI da) (XS N t S) = some (XS N t (a_gives S nd to l mn ow da)) := by
  have hb := bk_le nd
  have hc := g_14 h (8 * nd + l)
  have h7 := g_b h 70 (8 * nd + l) (by omega)
  have hvl := g_b h 126 (8 * nd + l) (by omega)
  have hdt := g_d h 182 (8 * nd + l) (by omega)
  generalize hcg : mn + 16 * ow + 32 * (if da = 0 then 0 else S 182 (8 * nd + l) + 1) = cgo
  have e116 : ∀ S' : a_S, S' 1 7 = S 1 7 → xX1_hand_116 t (nI nd) (nI to) (nI l) (nI cgo) (XS N t S') = some (XS N t (a_send S' nd to 3 l mn ow (if da = 0 then 0 else S 182 (8 * nd + l) + 1) 0 0)) := by
    intro S' h9
    unfold xX1_hand_116
    rw [x_post (mn := mn) (ow := ow) (wi := if da = 0 then 0 else S 182 (8 * nd + l) + 1) (nt := 0) (wh := 0) ht (by omega) hd hto (by omega) (by omega) hl (by omega) how (by split <;> omega) (by omega) (by omega) (fun _ => ⟨rfl, rfl⟩) (fun h => absurd rfl h) (by rw [← hcg]; rfl), e_obv2]
  have e56 : xX1_hand_56 t (nI nd) (nI to) (nI l) (nI mn) (nI ow) (nI (bk nd)) (nI (bk nd + l)) (nI (hv S (8 * nd + l))) (nI cgo) (XS N t S) = some (XS N t (a_gives S nd to l mn ow da)) := by
    unfold xX1_hand_56 a_gives
    have w0 := xw_h (N := N) (t := t) (n := nd) (l := l) (c := 0) (o := 0) (v := 0) (d := 0) (S := S) ht hd hl
    rw [show hvv 0 0 0 0 = 0 from rfl] at w0
    unfold hv
    simp (disch := omega) only [e_gd, e_ix, e_oli2, e_oml2, e_obi2, e_obv2, e_add, e_mul, e_sub, e_eq, e_lt, e_le, e_eq0, e_0eq, e_lt0, e_0lt, e_le0, e_0le, e_m1, e_m1', e_m1lt, Nat.add_assoc, Nat.not_lt_zero, Nat.le_zero_eq, h_count]
    by_cases hm2 : S 14 (8 * nd + l) ≤ mn
    · have h00 : S 14 (8 * nd + l) - mn = 0 := by omega
      rw [if_pos hm2, if_pos h00, w0]
      by_cases h6 : nd = 6
      · rw [if_pos h6, if_pos h6, e116 _ (sh4_ne (by omega)), gives2_nf (by omega) (by omega)]
      · rw [if_neg h6, if_neg h6, x_forget ht (RG_sh4 h (by omega) (by omega) (by omega) (by omega)) (UD_sh4 hu) (by omega) hl, e_obv2, e116 _ (by rw [fo_o (by omega), sh4_ne (by omega)]), gives2_nf (by omega) (by omega), as_fo]
    · have h00 : ¬ S 14 (8 * nd + l) - mn = 0 := by omega
      rw [if_neg hm2, if_neg h00, gives1_nf]
      have w1 : ∀ z, xX1_hand_87 t (nI nd) (nI to) (nI l) (nI mn) (nI cgo) (nI (bk nd + l)) (nI (hvv (S 14 (8 * nd + l)) z (S 126 (8 * nd + l)) (S 182 (8 * nd + l)))) (XS N t S) = some (XS N t (a_send (sh4 S (8 * nd + l) (S 14 (8 * nd + l) - mn) z (S 126 (8 * nd + l)) (S 182 (8 * nd + l))) nd to 3 l mn ow (if da = 0 then 0 else S 182 (8 * nd + l) + 1) 0 0)) := by
        intro z
        have e : nI (hvv (S 14 (8 * nd + l)) z (S 126 (8 * nd + l)) (S 182 (8 * nd + l))) - nI mn = nI (hvv (S 14 (8 * nd + l) - mn) z (S 126 (8 * nd + l)) (S 182 (8 * nd + l))) := by
          unfold hvv
          rw [e_sub (by omega)]
          congr 1
          omega
        unfold xX1_hand_87
        rw [e]
        simp (disch := omega) only [e_gd, e_ix, e_oli2, e_oml2, e_obi2, e_obv2, e_add, e_mul, e_sub, e_eq, e_lt, e_le, e_eq0, e_0eq, e_lt0, e_0lt, e_le0, e_0le, e_m1, e_m1', e_m1lt, Nat.add_assoc, Nat.not_lt_zero, Nat.le_zero_eq, xw_h]
        exact e116 _ (sh4_ne (by omega))
      by_cases ho0 : ow = 0
      · rw [if_pos ho0, if_pos ho0, w1]
      · have e17 : nI (hvv (S 14 (8 * nd + l)) (S 70 (8 * nd + l)) (S 126 (8 * nd + l)) (S 182 (8 * nd + l))) &&& (-17 : Int32) = nI (hvv (S 14 (8 * nd + l)) 0 (S 126 (8 * nd + l)) (S 182 (8 * nd + l))) := by
          unfold hvv
          rw [e_m17 (by omega)]
          congr 1
          omega
        rw [if_neg ho0, if_neg ho0, e17, w1]
  have e37 : ∀ z, z = mn + 16 * ow → xX1_hand_37 t (nI nd) (nI to) (nI l) (nI mn) (nI ow) (nI da) (nI (bk nd)) (nI (bk nd + l)) (nI (hv S (8 * nd + l))) (nI z) (XS N t S) = some (XS N t (a_gives S nd to l mn ow da)) := by
    intro z hz
    unfold xX1_hand_37
    rw [f_eq0 (by omega)]
    by_cases hda0 : da = 0
    · rw [if_pos hda0]
      rw [if_pos hda0] at hcg
      rw [show z = cgo by omega]
      exact e56
    · rw [if_neg hda0]
      rw [if_neg hda0] at hcg
      have e : z ||| (S 182 (8 * nd + l) + 1) * 2 ^ 5 = cgo := by
        rw [n_or 5 (by omega) (by omega)]
        omega
      unfold hv
      rw [h_data (by omega) h7 hvl hdt, e_obi2, e_add, e_shl (by omega) (by omega), e_or, e]
      exact e56
  unfold xX1_hand
  rw [x_blk hd, e_obi2]
  simp (disch := omega) only [e_gd, e_ix, e_oli2, e_oml2, e_obi2, e_obv2, e_add, e_mul, e_sub, e_eq, e_lt, e_le, e_eq0, e_0eq, e_lt0, e_0lt, e_le0, e_0le, e_m1, e_m1', e_m1lt, Nat.add_assoc, Nat.not_lt_zero, Nat.le_zero_eq, Nat.reduceAdd, xr_4, xr_5, xr_6, xr_7, xr_13, xr_14, xr_3, xr_10, xr_11, xr_12, xr_15, xr_16, xr_17, xr_18, xr_19, xr_0_8, xr_0_9, xr_0_10, xr_0_11, xr_0_12, xr_0_13, xr_0_14, xr_8_11, xr_8_12, xr_8_13, xr_8_14, xr_h, xr_e, xr_u, xr_m, xr_2, xr_9, e_or]
  by_cases ho0 : ow = 0
  · rw [if_pos ho0, e37 mn (by omega)]
  · rw [if_neg ho0, e37 (mn ||| 16) (by rw [n_or 4 (by omega) (by omega)]; omega)]
