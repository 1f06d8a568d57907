/-! ===== the reference lays a state out ===== -/
def RW (g : Nat → Int32) (N : j_M) : j_M := fun x j => if x = 201 then g j else N x j
theorem rw_rs {N : j_M} {S : a_S} : RS N S = RW (fl (enc S)) N := by
  funext x j
  unfold RW RS RM
  by_cases c : x = 201
  · rw [if_pos c, if_pos c]
  · rw [if_neg c, if_neg c]
theorem rw_o {N : j_M} {g : Nat → Int32} {x : Nat} (h : x ≠ 201) : RW g N x = N x := by
  funext j
  exact if_neg h
theorem rw_1r {N : j_M} {g : Nat → Int32} {j : Nat} : RW g N 201 j = g j := if_pos rfl
theorem rw_w {N : j_M} {g : Nat → Int32} {i : Nat} {v : Int32} : mw (RW g N) 201 i v = RW (fun j => if j = i then v else g j) N := by
  funext x j
  by_cases c : x = 201
  · subst c
    rw [rw_1r]
    by_cases c2 : j = i
    · rw [c2, mw_at (by omega), if_pos rfl]
    · rw [mw_ne c2, if_neg c2, rw_1r]
  · rw [mw_oth c, rw_o c, rw_o c]
theorem r_lay59 {N : j_M} {K : a_S} {s f : Nat} (hs : s < 251) (hw : STW N s K) (h24 : K 1 7 ≤ 24) : ∀ (m k : Nat) (g : Nat → Int32), k + m = 9 * K 1 7 → g 7 = nI (K 1 7) → xX12_laysState_59 (f + m + 1) (nI s) (nI k) (RW g N) = some (RW (fun j => if 586 + k ≤ j ∧ j < 586 + 9 * K 1 7 then fl (enc K) j else g j) N) := by
  intro m
  induction m with
  | zero =>
    intro k g hk h7
    rw [xX12_laysState_59.eq_2, e_gd (by omega) (by omega), e_ix2 (by omega), rw_1r, h7, e_oli2, e_mul, if_pos (by rw [e_le (by omega) (by omega)]; omega)]
    congr 2
    funext j
    exact (if_neg (by omega)).symm
  | succ m ih =>
    intro k g hk h7
    have ew : N 211 (729 * s + 512 + 1 + k) = fl (enc K) (586 + k) := by
      have := hw (513 + k) (by omega)
      unfold FW at this
      rw [if_neg (by omega), if_neg (by omega), if_neg (by omega), show 513 + k - 513 = k by omega] at this
      rw [← this, show 729 * s + 512 + 1 + k = 729 * s + (513 + k) by omega]
    rw [show f + (m + 1) + 1 = (f + m + 1) + 1 by omega, xX12_laysState_59.eq_2, e_gd (by omega) (by omega), e_ix2 (by omega), rw_1r, h7, e_oli2, e_mul, if_neg (by rw [e_le (by omega) (by omega)]; omega), e_mul, e_add, e_add, e_add, e_gd (by omega) (by omega), e_ix2 (by omega), rw_o (by omega), ew, e_oli2, e_add, e_gd (by omega) (by omega), e_ix2 (by omega), rw_w, e_oml2, e_add, ih (k + 1) _ (by omega) (by rw [if_neg (by omega)]; exact h7)]
    congr 2
    funext j
    by_cases c : 586 + (k + 1) ≤ j ∧ j < 586 + 9 * K 1 7
    · rw [if_pos c, if_pos (by omega)]
    · rw [if_neg c]
      by_cases c2 : j = 586 + k
      · rw [if_pos c2, if_pos (by omega), c2]
      · rw [if_neg c2, if_neg (by omega)]
theorem r_lay2 {N : j_M} {K : a_S} {s f : Nat} (hs : s < 251) (hw : STW N s K) (h24 : K 1 7 ≤ 24) : ∀ (m k : Nat) (g : Nat → Int32), k + m = 512 → xX12_laysState_2 (f + m + 1) (nI s) (nI k) (RW g N) = xX12_laysState_59 fu (nI s) (nI 0) (RW (fun j => if j = 7 then nI (K 1 7) else if 14 + k ≤ j ∧ j < 526 then fl (enc K) j else g j) N) := by
  intro m
  induction m with
  | zero =>
    intro k g hk
    have ew : N 211 (729 * s + 512) = nI (K 1 7) := by
      have := hw 512 (by omega)
      unfold FW at this
      rw [if_neg (by omega), if_pos rfl] at this
      exact this
    rw [xX12_laysState_2.eq_2, if_pos (by rw [e_le (by omega) (by omega)]; omega), e_mul, e_add, e_gd (by omega) (by omega), e_ix2 (by omega), rw_o (by omega), ew, e_oli2, e_gd (by omega) (by omega), e_ix2 (by omega), rw_w, e_oml2]
    congr 2
    funext j
    by_cases c : j = 7
    · rw [if_pos c, if_pos c]
    · rw [if_neg c, if_neg c, if_neg (by omega)]
  | succ m ih =>
    intro k g hk
    have ew : N 211 (729 * s + k) = fl (enc K) (14 + k) := by
      have := hw k (by omega)
      unfold FW at this
      rw [if_pos (by omega)] at this
      exact this
    rw [show f + (m + 1) + 1 = (f + m + 1) + 1 by omega, xX12_laysState_2.eq_2, if_neg (by rw [e_le (by omega) (by omega)]; omega), e_mul, e_add, e_gd (by omega) (by omega), e_ix2 (by omega), rw_o (by omega), ew, e_oli2, e_add, e_gd (by omega) (by omega), e_ix2 (by omega), rw_w, e_oml2, e_add, ih (k + 1) _ (by omega)]
    congr 2
    funext j
    by_cases c : j = 7
    · rw [if_pos c, if_pos c]
    · rw [if_neg c, if_neg c]
      by_cases c1 : 14 + (k + 1) ≤ j ∧ j < 526
      · rw [if_pos c1, if_pos (by omega)]
      · rw [if_neg c1]
        by_cases c2 : j = 14 + k
        · rw [if_pos c2, if_pos (by omega), c2]
        · rw [if_neg c2, if_neg (by omega)]
theorem ifge {p : Prop} [Decidable p] {a b c : Nat} (h1 : c ≤ a) (h2 : ¬ p → c ≤ b) : c ≤ if p then a else b := by
  by_cases h : p
  · rw [if_pos h]; exact h1
  · rw [if_neg h]; exact h2 h
theorem rgW_n {j : Nat} (h : ¬ (14 ≤ j ∧ j < 526)) : ¬ cr (rgW j) ∧ (rgW j = 586 → 586 ≤ j) ∧ (rgW j = 1 → j < 14) := by
  by_cases c : j < 14
  · rw [rg_1 c]
    unfold cr
    omega
  · have h1 : 526 ≤ j := by omega
    unfold rgW
    iterate 16 rw [if_neg (by omega)]
    unfold cr
    by_cases d1 : j < 532
    · rw [if_pos d1]; omega
    · rw [if_neg d1]
      by_cases d2 : j < 538
      · rw [if_pos d2]; omega
      · rw [if_neg d2]
        by_cases d3 : j < 586
        · rw [if_pos d3]; omega
        · rw [if_neg d3]
          have hge : ∀ v : Nat, (526 ≤ v) → (¬ (v = 14 ∨ v = 70 ∨ v = 126 ∨ v = 182 ∨ v = 238 ∨ v = 244 ∨ v = 292 ∨ v = 298 ∨ v = 304 ∨ v = 310 ∨ v = 316 ∨ v = 358 ∨ v = 400 ∨ v = 442 ∨ v = 484) ∧ (v = 586 → 586 ≤ j) ∧ (v = 1 → j < 14)) := fun v hv => by omega
          apply hge
          iterate 15 refine ifge (by omega) (fun _ => ?_)
          refine ifge (by omega) (fun _ => by omega)
theorem r_lay {N : j_M} {S K : a_S} {s : Nat} (hs : s < 251) (hw : STW N s K) (h24 : K 1 7 ≤ 24) : xX12_laysState (nI s) (RS N S) = some (RS N (LAY K S)) := by
  unfold xX12_laysState
  rw [rw_rs, show fu = 999487 + 512 + 1 by unfold fu; omega, r_lay2 hs hw h24 512 0 _ (by omega), show fu = 999999 - 9 * K 1 7 + 9 * K 1 7 + 1 by unfold fu; omega, r_lay59 hs hw h24 (9 * K 1 7) 0 _ (by omega) (if_pos rfl), rw_rs]
  congr 2
  funext j
  show (if 586 + 0 ≤ j ∧ j < 586 + 9 * K 1 7 then fl (enc K) j else if j = 7 then nI (K 1 7) else if 14 + 0 ≤ j ∧ j < 526 then fl (enc K) j else fl (enc S) j) = fl (enc (LAY K S)) j
  by_cases c1 : 586 + 0 ≤ j ∧ j < 586 + 9 * K 1 7
  · rw [if_pos c1, show j = 586 + (j - 586) by omega, fl_6 (by omega), fl_6 (by omega), lay_m (by omega)]
  · rw [if_neg c1]
    by_cases c2 : j = 7
    · rw [if_pos c2, c2, fl_1 (W := enc (LAY K S)) (k := 7) (by omega), enc_n (by omega), lay_7]
    · rw [if_neg c2]
      by_cases c3 : 14 + 0 ≤ j ∧ j < 526
      · rw [if_pos c3]
        have hc := rgW_c (j := j) (by omega) c3.2
        unfold fl enc
        rw [lay_c hc]
      · rw [if_neg c3]
        have hn := rgW_n (j := j) (by omega)
        unfold fl enc
        rw [lay_o hn.1 ?_ ?_]
        · rintro ⟨q1, q2⟩
          rw [q1] at q2
          have := hn.2.1 q1
          unfold bsW at q2
          rw [if_neg (by omega)] at q2
          omega
        · rintro ⟨q1, q2⟩
          rw [q1] at q2
          unfold bsW at q2
          rw [if_pos rfl] at q2
          omega
theorem r_like {N : j_M} {S : a_S} {i : Nat} (hr : RG S) (hi : i < 240) : xX12_isLikeAhead (nI i) (RS N S) = some (nI (if i ≠ 0 ∧ lk (fd S i) = lk (fd S (i - 1)) then 1 else 0), RS N S) := by
  unfold xX12_isLikeAhead
  by_cases c : i = 0
  · rw [if_pos (by rw [c]; decide), if_neg (fun q => q.1 c)]
  · rw [if_neg (by rw [e_le0 (by omega)]; omega), e_sub (by omega), r_beh hr hi (by omega), e_obi2, r_beh hr (by omega) hi, e_obi2]
    by_cases c1 : lk (fd S (i - 1)) < lk (fd S i)
    · rw [if_pos c1, if_neg (by decide), if_neg (fun q => by have := q.2; omega)]
    · rw [if_neg c1, if_pos (by decide)]
      by_cases c2 : lk (fd S i) < lk (fd S (i - 1))
      · rw [if_pos c2, if_neg (by decide), if_neg (fun q => by have := q.2; omega)]
      · rw [if_neg c2, if_pos (by decide), if_pos ⟨c, by omega⟩]
/-! ===== the reference leaves a state in every way ===== -/
def YST (N : j_M) (S0 : a_S) (n : Nat) (κ : Nat → a_S) (d : Nat → Nat) (ec : Nat) (es et : Nat → Nat) (s i : Nat) : Prop :=
  RKR N S0 n κ d ∧ BF S0 n κ d (EE ec es et) s ∧ N 200 30 = nI ec ∧ (∀ e, e < ec → N 213 e = nI (es e) ∧ N 214 e = nI (et e)) ∧ ec ≤ 24 * s + i ∧ N 200 31 = nI 0 ∧ (∀ k, k < i → k < κ s 1 7 → ∃ t, t < n ∧ EE ec es et s t ∧ KEQ (a_del (κ s) k) (κ t))
def YFR (N N' : j_M) : Prop := (∀ x, x ≠ 200 → x ≠ 204 → x ≠ 211 → x ≠ 212 → x ≠ 213 → x ≠ 214 → N' x = N x) ∧ (∀ j, j ≠ 29 → j ≠ 30 → j ≠ 31 → N' 200 j = N 200 j)
theorem YFR_r {N : j_M} : YFR N N := ⟨fun _ _ _ _ _ _ _ => rfl, fun _ _ _ _ => rfl⟩
theorem YFR_t {N N' N'' : j_M} (h : YFR N N') (h2 : YFR N' N'') : YFR N N'' := ⟨fun x a b c d e f => by rw [h2.1 x a b c d e f, h.1 x a b c d e f], fun j a b c => by rw [h2.2 j a b c, h.2 j a b c]⟩
/-- the row as it stands on a walk -/
def RWN (S0 S : a_S) (b : Nat) : Prop := NOD S0 S ∧ S 6961 0 ≤ b
theorem r_wf15 {S0 K : a_S} {s b f : Nat} (hs250 : s < 250) (hb : b ≤ 2000000000) : ∀ (m i : Nat) (N : j_M) (S : a_S) (n : Nat) (κ : Nat → a_S) (d : Nat → Nat) (ec : Nat) (es et : Nat → Nat), i + m = K 1 7 → YST N S0 n κ d ec es et s i → RWN S0 S (b + 2 * (24 * s + i)) → s < n → κ s = K → (∃ N' S' n' κ' d' ec' es' et', xX12_walksFrom_15 (f + m + 1) (nI s) (nI (K 1 7)) (nI i) (RS N S) = some (RS N' S') ∧ YST N' S0 n' κ' d' ec' es' et' s (K 1 7) ∧ RWN S0 S' (b + 2 * (24 * s + K 1 7)) ∧ s < n' ∧ κ' s = K ∧ YFR N N') ∨ (TMU S0 ∧ ∃ N' S' n', xX12_walksFrom_15 (f + m + 1) (nI s) (nI (K 1 7)) (nI i) (RS N S) = some (RS N' S') ∧ N' 200 31 = nI 1 ∧ N' 200 29 = nI n' ∧ n' ≤ 250 ∧ YFR N N') := by
  intro m
  induction m with
  | zero =>
    intro i N S n κ d ec es et hi h hS hs hK
    have h24 := (h.1.2.2 s hs).2.2.2.2
    rw [hK] at h24
    have hi' : i = K 1 7 := by omega
    subst hi'
    refine Or.inl ⟨N, S, n, κ, d, ec, es, et, ?_, h, hS, hs, hK, YFR_r⟩
    rw [xX12_walksFrom_15.eq_2, if_pos (by rw [e_le (by omega) (by omega)]; omega)]
  | succ m ih =>
    intro i N S n κ d ec es et hi h hS hs hK
    obtain ⟨hR, hB, h30, hed, hec, h31, hd⟩ := h
    obtain ⟨b1, b2, b3, b4, b5⟩ := hR.2.2 s hs
    have h250 := hR.1
    have hK7 : K 1 7 ≤ 24 := by rw [← hK]; exact b5
    have hic : i < κ s 1 7 := by rw [hK]; omega
    have hL := NOD_lay b3 hS.1
    have hLK := KEQ_lay (NOD_par b3 hS.1)
    have hL7 : LAY (κ s) S 1 7 = κ s 1 7 := lay_7
    have hL9 : LAY (κ s) S 6961 0 = S 6961 0 := lay_o (by unfold cr; omega) (by omega) (by omega)
    have hS9 := hS.2
    have elk : ∀ q, q < κ s 1 7 → lk (fd (LAY (κ s) S) q) = lk (fd (κ s) q) := fun q hq => gp_lk _ _ (fun j hj => lay_m (by omega))
    obtain ⟨x, ed⟩ := q_del (N := N) (S := LAY (κ s) S) (i := i) hL.1 (by omega) (by omega)
    have hlike : xX12_isLikeAhead (nI i) (RS N (LAY (κ s) S)) = some (nI (if i ≠ 0 ∧ lk (fd (κ s) i) = lk (fd (κ s) (i - 1)) then 1 else 0), RS N (LAY (κ s) S)) := by
      rw [r_like hL.1.1 (by omega)]
      by_cases c0 : i = 0
      · rw [if_neg (fun q => q.1 c0), if_neg (fun q => q.1 c0)]
      · rw [elk i hic, elk (i - 1) (by omega)]
    have st : xX12_walksFrom_15 (f + (m + 1) + 1) (nI s) (nI (K 1 7)) (nI i) (RS N S) = if i ≠ 0 ∧ lk (fd (κ s) i) = lk (fd (κ s) (i - 1)) then xX12_walksFrom_15 (f + m + 1) (nI s) (nI (K 1 7)) (nI (i + 1)) (RS N (LAY (κ s) S)) else obi (xX12_stateNow (nI (d s + 1)) (RS (w4 N x) (a_del (LAY (κ s) S) i))) fun v9 M8 => (if v9 = (-1 : Int32) then some M8 else oli (M8 200 30) fun v10 => gd v10 6200 (oml (mw M8 213 (ix v10) (nI s)) fun M11 => oli (M11 200 30) fun v12 => gd v12 6200 (oml (mw M11 214 (ix v12) v9) fun M13 => oli (M13 200 30) fun v14 => oml (mw M13 200 30 (v14 + (nI 1))) fun M15 => xX12_walksFrom_15 (f + m + 1) (nI s) (nI (K 1 7)) (nI (i + 1)) M15))) := by
      rw [show f + (m + 1) + 1 = (f + m + 1) + 1 by omega, xX12_walksFrom_15.eq_2, if_neg (by rw [e_le (by omega) (by omega)]; omega), rs_o (by omega), h31, e_oli2, if_pos (by decide), r_lay (by omega) b1 b5, e_obv2, hlike, e_obi2, ed, e_obi2, e_gd (by omega) (by omega), e_ix2 (by omega), rs_o (by omega), w4_o (by omega), b2, e_oli2, e_add, e_add]
      by_cases c : i ≠ 0 ∧ lk (fd (κ s) i) = lk (fd (κ s) (i - 1))
      · simp only [if_pos c]
        rw [if_neg (by decide)]
      · simp only [if_neg c]
        rw [if_pos (by decide)]
    rw [st]
    by_cases c : i ≠ 0 ∧ lk (fd (κ s) i) = lk (fd (κ s) (i - 1))
    · rw [if_pos c]
      have h' : YST N S0 n κ d ec es et s (i + 1) := by
        refine ⟨hR, hB, h30, hed, by omega, h31, fun k hk1 hk2 => ?_⟩
        by_cases w : k = i
        · subst w
          obtain ⟨t, t1, t2, t3⟩ := hd (k - 1) (by omega) (by omega)
          exact ⟨t, t1, t2, KEQ_t (KEQ_del KEQ_r hic (by omega) (lk_in b3.1.1 b3.1.1 c.2)) t3⟩
        · exact hd k (by omega) hk2
      exact ih (i + 1) N (LAY (κ s) S) n κ d ec es et (by omega) h' ⟨hL, by omega⟩ hs hK
    · rw [if_neg c]
      have hD := NOD_del (i := i) hL (by omega)
      have hD9 := t_del (S := LAY (κ s) S) (i := i)
      have hDK : KEQ (a_del (κ s) i) (a_del (LAY (κ s) S) i) := KEQ_del (KEQ_s hLK) hic (by omega) (fun j hj => (lay_m (by omega)).symm)
      generalize a_del (LAY (κ s) S) i = D at *
      have hR4 : RKR (w4 N x) S0 n κ d := RKR_e hR (by rw [w4_o (by omega)]) (w4_o (by omega)) (w4_o (by omega))
      have hY4 : YFR N (w4 N x) := ⟨fun y _ h2 _ _ _ _ => w4_o h2, fun j _ _ _ => by rw [w4_o (by omega)]⟩
      rcases r_stateNow (a := d s + 1) hR4 hD with ⟨q24, e1⟩ | ⟨q24, S', p1, hcase⟩
      · right
        refine ⟨BF_much hB hs hic (by rw [hDK.2.2.2.2.1]; exact q24), mw (w4 N x) 200 31 (nI 1), D, n, ?_, mw_at (by omega), by rw [mw_ne (by omega)]; exact hR4.2.1, h250, YFR_t hY4 ⟨fun y h1 _ _ _ _ _ => mw_oth h1, fun j _ _ h3 => mw_ne h3⟩⟩
        rw [e1, e_obi2, if_pos rfl]
      · have hS' := NOD_prm hD p1
        have hS9' : S' 6961 0 ≤ b + 2 * (24 * s + (i + 1)) := by rw [p1.1 6961 0 (by omega)]; omega
        have hK' : KEQ (a_del (κ s) i) S' := KEQ_t hDK (KEQ_s (KEQ_prm p1))
        have tail : ∀ (N1 : j_M) (t : Nat), t < 251 → N1 200 30 = nI ec → (oli (RS N1 S' 200 30) fun v10 => gd v10 6200 (oml (mw (RS N1 S') 213 (ix v10) (nI s)) fun M11 => oli (M11 200 30) fun v12 => gd v12 6200 (oml (mw M11 214 (ix v12) (nI t)) fun M13 => oli (M13 200 30) fun v14 => oml (mw M13 200 30 (v14 + (nI 1))) fun M15 => xX12_walksFrom_15 (f + m + 1) (nI s) (nI (K 1 7)) (nI (i + 1)) M15))) = xX12_walksFrom_15 (f + m + 1) (nI s) (nI (K 1 7)) (nI (i + 1)) (RS (mw (mw (mw N1 213 ec (nI s)) 214 ec (nI t)) 200 30 (nI (ec + 1))) S') := by
          intro N1 t ht hN1
          rw [rs_o (by omega), hN1, e_oli2, e_gd (by omega) (by omega), e_ix2 (by omega), rs_wo (by omega), e_oml2, rs_o (by omega), mw_oth (by omega), hN1, e_oli2, e_gd (by omega) (by omega), e_ix2 (by omega), rs_wo (by omega), e_oml2, rs_o (by omega), mw_oth (by omega), mw_oth (by omega), hN1, e_oli2, rs_wo (by omega), e_oml2, e_add]
        have edn : ∀ (N1 : j_M) (t : Nat), (∀ e, e < ec → N1 213 e = nI (es e) ∧ N1 214 e = nI (et e)) → ∀ e, e < ec + 1 → mw (mw (mw N1 213 ec (nI s)) 214 ec (nI t)) 200 30 (nI (ec + 1)) 213 e = nI (dup es ec s e) ∧ mw (mw (mw N1 213 ec (nI s)) 214 ec (nI t)) 200 30 (nI (ec + 1)) 214 e = nI (dup et ec t e) := by
          intro N1 t hh e he
          unfold dup
          have e1 : mw (mw (mw N1 213 ec (nI s)) 214 ec (nI t)) 200 30 (nI (ec + 1)) 213 e = mw N1 213 ec (nI s) 213 e := by rw [mw_oth (by omega), mw_oth (by omega)]
          have e2 : mw (mw (mw N1 213 ec (nI s)) 214 ec (nI t)) 200 30 (nI (ec + 1)) 214 e = mw (mw N1 213 ec (nI s)) 214 ec (nI t) 214 e := by rw [mw_oth (by omega)]
          rw [e1, e2]
          by_cases w : e = ec
          · rw [w, mw_at (by omega), mw_at (by omega), if_pos rfl, if_pos rfl]
            exact ⟨rfl, rfl⟩
          · rw [mw_ne w, mw_ne w, mw_oth (by omega), if_neg w, if_neg w]
            exact hh e (by omega)
        rcases hcase with ⟨t, ht, hkt, e1⟩ | ⟨hne, hn, sS', N1, e1, w1, f1, f2⟩ | ⟨hne, hn, e1⟩
        · have hB' := BF_old hB hs ht hic (KEQ_t hK' (KEQ_s hkt))
          rw [← EE_s] at hB'
          have n30 : w4 N x 200 30 = nI ec := by rw [w4_o (by omega)]; exact h30
          rw [e1, e_obi2, if_neg (nI_m1 (by omega)), tail (w4 N x) t (by omega) n30]
          have hY : YST (mw (mw (mw (w4 N x) 213 ec (nI s)) 214 ec (nI t)) 200 30 (nI (ec + 1))) S0 n κ d (ec + 1) (dup es ec s) (dup et ec t) s (i + 1) := by
            refine ⟨RKR_e hR4 (by rw [mw_ne (by omega), mw_oth (by omega), mw_oth (by omega)]) (by rw [mw_oth (by omega), mw_oth (by omega), mw_oth (by omega)]) (by rw [mw_oth (by omega), mw_oth (by omega), mw_oth (by omega)]), hB', mw_at (by omega), edn _ t (fun e he => by rw [w4_o (by omega), w4_o (by omega)]; exact hed e he), by omega, by rw [mw_ne (by omega), mw_oth (by omega), mw_oth (by omega), w4_o (by omega)]; exact h31, fun k hk1 hk2 => ?_⟩
            by_cases w : k = i
            · subst w
              refine ⟨t, ht, ?_, KEQ_t hK' (KEQ_s hkt)⟩
              rw [EE_s]
              exact Or.inr ⟨rfl, rfl⟩
            · obtain ⟨t', q1, q2, q3⟩ := hd k (by omega) hk2
              refine ⟨t', q1, ?_, q3⟩
              rw [EE_s]
              exact Or.inl q2
          have yf : YFR N (mw (mw (mw (w4 N x) 213 ec (nI s)) 214 ec (nI t)) 200 30 (nI (ec + 1))) := YFR_t hY4 ⟨fun y h1 h2 h3 h4 h5 h6 => by rw [mw_oth h1, mw_oth h6, mw_oth h5], fun j h1 h2 h3 => by rw [mw_ne h2, mw_oth (by omega), mw_oth (by omega)]⟩
          rcases ih (i + 1) _ S' n κ d (ec + 1) _ _ (by omega) hY ⟨hS', hS9'⟩ hs hK with ⟨N', S'', n', κ', d', ec', es', et', g1, g2, g3, g4, g5, g6⟩ | ⟨hT, N', S'', n', g1, g2, g3, g4, g5⟩
          · exact Or.inl ⟨N', S'', n', κ', d', ec', es', et', g1, g2, g3, g4, g5, YFR_t yf g6⟩
          · exact Or.inr ⟨hT, N', S'', n', g1, g2, g3, g4, YFR_t yf g5⟩
        · have hB' := BF_new hB hs hic hK' hS' (by have := p1.1 1 7 (by omega); omega) hne
          rw [← EE_s] at hB'
          have n30 : N1 200 30 = nI ec := by rw [f1 30 (by omega), w4_o (by omega)]; exact h30
          have ks : kup κ n S' s = κ s := if_neg (by omega)
          rw [e1, e_obi2, if_neg (nI_m1 (by omega)), tail N1 n (by omega) n30]
          have hY : YST (mw (mw (mw N1 213 ec (nI s)) 214 ec (nI n)) 200 30 (nI (ec + 1))) S0 (n + 1) (kup κ n S') (dup d n (d s + 1)) (ec + 1) (dup es ec s) (dup et ec n) s (i + 1) := by
            refine ⟨RKR_e w1 (by rw [mw_ne (by omega), mw_oth (by omega), mw_oth (by omega)]) (by rw [mw_oth (by omega), mw_oth (by omega), mw_oth (by omega)]) (by rw [mw_oth (by omega), mw_oth (by omega), mw_oth (by omega)]), hB', mw_at (by omega), edn _ n (fun e he => by rw [f2 213 (by omega) (by omega) (by omega), f2 214 (by omega) (by omega) (by omega), w4_o (by omega), w4_o (by omega)]; exact hed e he), by omega, by rw [mw_ne (by omega), mw_oth (by omega), mw_oth (by omega), f1 31 (by omega), w4_o (by omega)]; exact h31, fun k hk1 hk2 => ?_⟩
            rw [ks] at hk2 ⊢
            by_cases w : k = i
            · subst w
              refine ⟨n, by omega, ?_, ?_⟩
              · rw [EE_s]
                exact Or.inr ⟨rfl, rfl⟩
              · unfold kup
                rw [if_pos rfl]
                exact hK'
            · obtain ⟨t', q1, q2, q3⟩ := hd k (by omega) hk2
              refine ⟨t', by omega, ?_, ?_⟩
              · rw [EE_s]
                exact Or.inl q2
              · unfold kup
                rw [if_neg (by omega)]
                exact q3
          have yf : YFR N (mw (mw (mw N1 213 ec (nI s)) 214 ec (nI n)) 200 30 (nI (ec + 1))) := YFR_t hY4 ⟨fun y h1 h2 h3 h4 h5 h6 => by rw [mw_oth h1, mw_oth h6, mw_oth h5, f2 y h1 h3 h4], fun j h1 h2 h3 => by rw [mw_ne h2, mw_oth (by omega), mw_oth (by omega), f1 j h1]⟩
          rcases ih (i + 1) _ S' (n + 1) _ _ (ec + 1) _ _ (by omega) hY ⟨hS', hS9'⟩ (by omega) (by rw [ks, hK]) with ⟨N', S'', n', κ', d', ec', es', et', g1, g2, g3, g4, g5, g6⟩ | ⟨hT, N', S'', n', g1, g2, g3, g4, g5⟩
          · exact Or.inl ⟨N', S'', n', κ', d', ec', es', et', g1, g2, g3, g4, g5, YFR_t yf g6⟩
          · exact Or.inr ⟨hT, N', S'', n', g1, g2, g3, g4, YFR_t yf g5⟩
        · right
          subst hn
          refine ⟨BF_full hB hs hic hK' hS' hne, mw (w4 N x) 200 31 (nI 1), S', 250, ?_, mw_at (by omega), by rw [mw_ne (by omega)]; exact hR4.2.1, by omega, YFR_t hY4 ⟨fun y h1 _ _ _ _ _ => mw_oth h1, fun j _ _ h3 => mw_ne h3⟩⟩
          rw [e1, e_obi2, if_pos rfl]
