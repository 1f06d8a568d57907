/-! ===== the class leaves a state in every way ===== -/
def EE (ec : Nat) (es et : Nat → Nat) : Nat → Nat → Prop := fun a b => ∃ i, i < ec ∧ es i = a ∧ et i = b
theorem EE_s {ec s t : Nat} {es et : Nat → Nat} : EE (ec + 1) (dup es ec s) (dup et ec t) = fun a b => EE ec es et a b ∨ (a = s ∧ b = t) := by
  funext a b
  apply propext
  unfold EE dup
  constructor
  · rintro ⟨i, h1, h2, h3⟩
    by_cases c : i = ec
    · rw [if_pos c] at h2 h3
      exact Or.inr ⟨h2.symm, h3.symm⟩
    · rw [if_neg c] at h2 h3
      exact Or.inl ⟨i, by omega, h2, h3⟩
  · rintro (⟨i, h1, h2, h3⟩ | ⟨rfl, rfl⟩)
    · exact ⟨i, by omega, by rw [if_neg (by omega)]; exact h2, by rw [if_neg (by omega)]; exact h3⟩
    · exact ⟨ec, by omega, by rw [if_pos rfl], by rw [if_pos rfl]⟩
/-- the thought as it stands on a walk -/
def THN (M : j_M) (S0 : a_S) (b : Nat) : Prop := ∃ S, CVS M 70 S ∧ NOD S0 S ∧ TRC S ∧ S 6961 0 ≤ b
/-- the class, k messages of state s being done -/
def XST (M : j_M) (S0 : a_S) (n : Nat) (κ : Nat → a_S) (d sl : Nat → Nat) (ec : Nat) (es et : Nat → Nat) (s k b : Nat) : Prop :=
  WKR M S0 n κ d sl ∧ THN M S0 (b + 2 * (24 * s + k)) ∧ BF S0 n κ d (EE ec es et) s ∧ M 100 11 = nI ec ∧ (∀ i, i < ec → M 107 i = nI (et i)) ∧ ec ≤ 24 * s + k ∧ M 100 16 = nI 0 ∧ (∀ i, i < k → i < κ s 1 7 → ∃ t, t < n ∧ EE ec es et s t ∧ KEQ (a_del (κ s) i) (κ t))
/-- the copy of a kept state, by the class -/
theorem x_lay {M : j_M} {S0 S K : a_S} {u s : Nat} (hu : u = 16 * (S0 1 0 + 1)) (hs : s < 250) (hk : STR M u s K) (hK : NOD S0 K) (hS : NOD S0 S) (h24 : K 1 7 ≤ 24) (hV : CVS M 70 S) : CVS (mw (mcp (mcp M 102 (s * 112) (70 + 1) 0 u) 103 (s * 24) (70 + 2) 0 (K 1 7)) 70 8 (nI (K 1 7))) 70 (LAY K S) := by
  have n6 := g_n hS.1.1
  rw [hS.2.1.1] at n6
  intro k j hk20 c1 c2
  have o : ∀ x, x ≠ 70 → x ≠ 71 → x ≠ 72 → mw (mcp (mcp M 102 (s * 112) (70 + 1) 0 u) 103 (s * 24) (70 + 2) 0 (K 1 7)) 70 8 (nI (K 1 7)) x = M x := fun x h1 h2 h3 => by rw [mw_oth h1, mcp_o (by omega), mcp_o (by omega)]
  by_cases k0 : k = 0
  · subst k0
    have hj : 8 ≤ j ∧ j < 15 := ⟨c1, c2⟩
    rw [Nat.add_zero]
    by_cases j8 : j = 8
    · subst j8
      rw [mw_at (by omega)]
      show _ = nI (LAY K S 1 7)
      rw [lay_7]
    · rw [mw_ne j8, mcp_o (by omega), mcp_o (by omega)]
      have := hV 0 j (by omega) c1 c2
      rw [Nat.add_zero] at this
      rw [this]
      refine (cv_c (by omega) (fun r i hc => ?_)).symm
      unfold cu at hc
      have hr : r = 1 ∧ i = j - 9 := by omega
      rw [hr.1, hr.2]
      exact lay_1 (by omega)
  · by_cases k1 : k = 1
    · subst k1
      have hj : j < 112 := c2
      rw [mw_oth (by omega), mcp_o (by omega)]
      show _ = nI (cell (LAY K S) j)
      rw [cell_k (T := K) (fun r x hr => lay_c hr)]
      unfold mcp
      rw [if_pos ⟨rfl, by omega⟩]
      by_cases c : 0 ≤ j ∧ j < 0 + u
      · rw [if_pos c, Nat.sub_zero, show s * 112 + j = 112 * s + j by omega, hk.2.2 j (by omega)]
      · rw [if_neg c]
        have e1 : M (70 + 1) j = nI (cell S j) := hV 1 j (by omega) c1 c2
        rw [e1]
        have e2 : cell S j = cell K j := by
          have hcc : cv S 1 j = cv K 1 j := by
            refine cv_c (by omega) (fun r i hc => ?_)
            have hcr : cr r := by unfold cu cu1 at hc; unfold cr; omega
            have hnp : ¬ PRS (S0 1 0) r i := by
              have e7 : (j / 16 + 6) % 7 = j / 16 - 1 := by omega
              have e8 : S0 1 0 + 1 ≤ j / 16 := by omega
              have e9 : j / 16 ≤ 6 := by omega
              unfold cu cu1 at hc
              rw [e7] at hc
              clear e7
              unfold PRS
              omega
            rw [hS.2.2 r i hcr hnp, hK.2.2 r i hcr hnp]
          exact (nI_i32 (hv_lt hS.1 j) (hv_lt hK.1 j)).1 hcc
        rw [e2]
    · by_cases k2 : k = 2
      · subst k2
        have hj : j < 240 := c2
        rw [mw_oth (by omega)]
        show _ = nI (lcv (fd (LAY K S) j))
        have e0 : ∀ y, mcp M 102 (s * 112) (70 + 1) 0 u (70 + 2) y = M (70 + 2) y := fun y => by rw [mcp_o (by omega)]
        have e3 : ∀ y, mcp M 102 (s * 112) (70 + 1) 0 u 103 y = M 103 y := fun y => by rw [mcp_o (by omega)]
        generalize mcp M 102 (s * 112) (70 + 1) 0 u = M1 at e0 e3 ⊢
        unfold mcp
        rw [if_pos ⟨rfl, by omega⟩, e0, e3]
        by_cases c : 0 ≤ j ∧ j < 0 + K 1 7
        · rw [if_pos c, Nat.sub_zero, show s * 24 + j = 24 * s + j by omega, hk.2.1 j (by omega), gp_lcv (fd (LAY K S) j) (fd K j) (fun q hq => lay_m (by omega))]
        · rw [if_neg c]
          have e1 : M (70 + 2) j = nI (lcv (fd S j)) := hV 2 j (by omega) c1 c2
          rw [e1, gp_lcv (fd (LAY K S) j) (fd S j) (fun q hq => lay_o (by unfold cr; omega) (by omega) (by omega))]
      · rw [o (70 + k) (by omega) (by omega) (by omega), hV k j hk20 c1 c2]
        refine (cv_c hk20 (fun r i hc => lay_o ?_ ?_ ?_)).symm
        · unfold cu cu1 at hc
          unfold cr
          omega
        · unfold cu cu1 at hc
          omega
        · unfold cu cu1 at hc
          omega
/-- one message of a state delivered in thought: what the class has then -/
theorem x_step {M : j_M} {S0 : a_S} {n ec s k b : Nat} {κ : Nat → a_S} {d sl es et : Nat → Nat} (h : XST M S0 n κ d sl ec es et s k b) (hs : s < n) (hk : k < κ s 1 7) (hb : b ≤ 2000000000) (K8 : Int32 → Int32 → Int32 → j_M → Option j_M) : (∃ M' n' κ' d' sl' ec' es' et', xX10_expand_57 K8 70 (nI s) (nI (s * 24)) (nI k) M = K8 (nI s) (nI (s * 24)) (nI (k + 1)) M' ∧ XST M' S0 n' κ' d' sl' ec' es' et' s (k + 1) b ∧ s < n' ∧ κ' s = κ s ∧ TWF M M' ∧ M' 108 = M 108 ∧ (∀ j, 12 ≤ j → j ≤ 15 → M' 100 j = M 100 j) ∧ (∃ z, ec' = ec + z ∧ (∀ i, i < ec → es' i = es i) ∧ (∀ i, ec ≤ i → i < ec' → es' i = s))) ∨ (TMU S0 ∧ ∃ M', xX10_expand_57 K8 70 (nI s) (nI (s * 24)) (nI k) M = K8 (nI s) (nI (s * 24)) (nI (k + 1)) M' ∧ M' 100 16 = nI 1 ∧ THN M' S0 (b + 2 * (24 * s + k) + 2) ∧ TWF M M' ∧ M' 104 = M 104 ∧ M' 100 11 = M 100 11 ∧ WKR M' S0 n κ d sl ∧ (∀ j, 12 ≤ j → j ≤ 15 → M' 100 j = M 100 j)) := by
  obtain ⟨hw, ⟨S, hV, hS, hT, h9⟩, hB, h11, h107, hec, h16, hd⟩ := h
  have hw' := hw
  obtain ⟨a1, a2, a3, a4, a5, a6, a7⟩ := hw'
  obtain ⟨b1, b2, b3, b4, b5⟩ := a4 s hs
  have n6 := g_n hS.1.1
  rw [hS.2.1.1] at n6
  have hL := NOD_lay b3 hS
  have hLV := x_lay rfl (by omega) b1 b3 hS b5 hV
  have hLK := KEQ_lay (NOD_par b3 hS)
  have hL7 : LAY (κ s) S 1 7 = κ s 1 7 := lay_7
  have hL9 : LAY (κ s) S 6961 0 = S 6961 0 := lay_o (by unfold cr; omega) (by omega) (by omega)
  have hLT : TRC (LAY (κ s) S) := TRC_c hT (fun i => lay_o (by unfold cr; omega) (by omega) (by omega))
  generalize hM6 : mw (mcp (mcp M 102 (s * 112) (70 + 1) 0 (16 * (S0 1 0 + 1))) 103 (s * 24) (70 + 2) 0 (κ s 1 7)) 70 8 (nI (κ s 1 7)) = M6 at hLV
  have m6o : ∀ x, x ≠ 70 → x ≠ 71 → x ≠ 72 → M6 x = M x := fun x h1 h2 h3 => by rw [← hM6, mw_oth h1, mcp_o (by omega), mcp_o (by omega)]
  have xd := x_del (N := M6) (t := 70) (i := k) (by omega) hL.1 (by omega) (by omega)
  rw [xs_self hLV] at xd
  have hD := NOD_del (i := k) hL (by omega)
  have hDV : CVS (XS M6 70 (a_del (LAY (κ s) S) k)) 70 (a_del (LAY (κ s) S) k) := CVS_xs
  have hDT : TRC (a_del (LAY (κ s) S) k) := TRC_del hLT hL.1 (by omega)
  have hD9 := t_del (S := LAY (κ s) S) (i := k)
  have hDK : KEQ (a_del (κ s) k) (a_del (LAY (κ s) S) k) := KEQ_del (KEQ_s hLK) hk (by omega) (fun j hj => (lay_m (by omega)).symm)
  have m7o : ∀ x, (x < 70 ∨ 90 ≤ x) → XS M6 70 (a_del (LAY (κ s) S) k) x = M x := fun x hx => by rw [xs_o (by omega), m6o x (by omega) (by omega) (by omega)]
  have hw7 : WKR (XS M6 70 (a_del (LAY (κ s) S) k)) S0 n κ d sl := WKR_e hw (by rw [m7o 100 (by omega)]) (by rw [m7o 100 (by omega)]) (fun x _ _ => m7o x (by omega))
  have e57 : xX10_expand_57 K8 70 (nI s) (nI (s * 24)) (nI k) M = obi (xX10_enter 70 (nI (d s + 1)) (XS M6 70 (a_del (LAY (κ s) S) k))) fun v11 M10 => (if v11 = (-1 : Int32) then K8 (nI s) (nI (s * 24)) (nI (k + 1)) M10 else oli (M10 100 11) fun v12 => gd v12 6000 (oml (mw M10 107 (ix v12) v11) fun M13 => oli (M13 100 11) fun v14 => oml (mw M13 100 11 (v14 + (nI 1))) fun M15 => K8 (nI s) (nI (s * 24)) (nI (k + 1)) M15)) := by
    unfold xX10_expand_57
    rw [a3, e_oli2, e_mul, e_gc (by omega) (by omega) (by omega) (by omega), e_ix2 (by omega), e_ix2 (by omega), e_ix2 (by omega), e_oml2, e_gd (by omega) (by omega), e_ix2 (by omega), mcp_o (by omega), b1.1, e_oli2, e_gc (by omega) (by omega) (by omega) (by omega), e_ix2 (by omega), e_ix2 (by omega), e_oml2, e_gd (by omega) (by omega), mcp_o (by omega), mcp_o (by omega), b1.1, e_oli2, e_oml2, hM6, xd, e_obi2, e_gd (by omega) (by omega), m7o 105 (by omega), b2, e_oli2, e_add, e_add]
  generalize a_del (LAY (κ s) S) k = D at *
  generalize XS M6 70 D = M7 at *
  have s9 : D 6961 0 ≤ b + 2 * (24 * s + k) + 2 := by omega
  have hsS : ∀ S', PRM D S' → NOD S0 S' ∧ TRC S' ∧ S' 6961 0 ≤ b + 2 * (24 * s + k) + 2 := fun S' hp => ⟨NOD_prm hD hp, TRC_c hDT (fun i => hp.1 6962 i (by omega)), by rw [hp.1 6961 0 (by omega)]; exact s9⟩
  rw [e57]
  rcases x_enter (a := d s + 1) hw7 hDV hD with ⟨q24, e1⟩ | ⟨q24, S', p1, hcase⟩
  · right
    refine ⟨BF_much hB hs hk (by rw [hDK.2.2.2.2.1]; exact q24), mw M7 100 16 (nI 1), ?_, mw_at (by omega), ⟨D, CVS_e hDV (fun x _ _ => mw_oth (by omega)), hD, hDT, s9⟩, fun x hx => ?_, ?_, ?_, ?_, fun j j1 j2 => ?_⟩
    · rw [e1, e_obi2, if_pos rfl]
    · rw [mw_oth (by omega), m7o x (by omega)]
    · rw [mw_oth (by omega), m7o 104 (by omega)]
    · rw [mw_ne (by omega), m7o 100 (by omega)]
    · exact WKR_e hw7 (mw_ne (by omega)) (mw_ne (by omega)) (fun x x1 x2 => mw_oth (by omega))
    · rw [mw_ne (by omega), m7o 100 (by omega)]
  · obtain ⟨hS', hT', h9'⟩ := hsS S' p1
    have hK' : KEQ (a_del (κ s) k) S' := KEQ_t hDK (KEQ_s (KEQ_prm p1))
    rcases hcase with ⟨t, M', ht, hkt, e1, v1, f1⟩ | ⟨hne, hn, sS', M', sl', e1, v1, w1, f1, f2⟩ | ⟨hne, hn, M', e1, v1, f1, f2, f3⟩
    · left
      have hB' := BF_old hB hs ht hk (KEQ_t hK' (KEQ_s hkt))
      rw [← EE_s] at hB'
      have c11 : M' 100 11 = nI ec := by rw [f1 100 (by omega), m7o 100 (by omega), h11]
      refine ⟨mw (mw M' 107 ec (nI t)) 100 11 (nI (ec + 1)), n, κ, d, sl, ec + 1, dup es ec s, dup et ec t, ?_, ⟨?_, ⟨S', ?_, hS', hT', by omega⟩, hB', mw_at (by omega), fun i hi => ?_, by omega, ?_, fun i hi hi2 => ?_⟩, hs, rfl, fun x hx => ?_, ?_, fun j j1 j2 => ?_, 1, rfl, fun i hi => if_neg (by omega), fun i i1 i2 => if_pos (by omega)⟩
      · rw [e1, e_obi2, if_neg (nI_m1 (by omega)), c11, e_oli2, e_gd (by omega) (by omega), e_ix2 (by omega), e_oml2, mw_oth (by omega), c11, e_oli2, e_oml2, e_add]
      · exact WKR_e hw7 (by rw [mw_ne (by omega), mw_oth (by omega), f1 100 (by omega)]) (by rw [mw_ne (by omega), mw_oth (by omega), f1 100 (by omega)]) (fun x x1 x2 => by rw [mw_oth (by omega), mw_oth (by omega), f1 x (by omega)])
      · exact CVS_e v1 (fun x _ _ => by rw [mw_oth (by omega), mw_oth (by omega)])
      · rw [mw_oth (by omega)]
        unfold dup
        by_cases c : i = ec
        · rw [if_pos c, c, mw_at (by omega)]
        · rw [if_neg c, mw_ne c, f1 107 (by omega), m7o 107 (by omega)]
          exact h107 i (by omega)
      · rw [mw_ne (by omega), mw_oth (by omega), f1 100 (by omega), m7o 100 (by omega), h16]
      · by_cases c : i = k
        · subst c
          refine ⟨t, ht, ?_, KEQ_t hK' (KEQ_s hkt)⟩
          rw [EE_s]
          exact Or.inr ⟨rfl, rfl⟩
        · obtain ⟨t', q1, q2, q3⟩ := hd i (by omega) hi2
          refine ⟨t', q1, ?_, q3⟩
          rw [EE_s]
          exact Or.inl q2
      · rw [mw_oth (by omega), mw_oth (by omega), f1 x (by omega), m7o x (by omega)]
      · rw [mw_oth (by omega), mw_oth (by omega), f1 108 (by omega), m7o 108 (by omega)]
      · rw [mw_ne (by omega), mw_oth (by omega), f1 100 (by omega), m7o 100 (by omega)]
    · left
      have hB' := BF_new hB hs hk hK' hS' (by have := p1.1 1 7 (by omega); omega) hne
      rw [← EE_s] at hB'
      have c11 : M' 100 11 = nI ec := by rw [f1 11 (by omega), m7o 100 (by omega), h11]
      have ks : kup κ n S' s = κ s := if_neg (by omega)
      have ds : dup d n (d s + 1) s = d s := if_neg (by omega)
      refine ⟨mw (mw M' 107 ec (nI n)) 100 11 (nI (ec + 1)), n + 1, kup κ n S', dup d n (d s + 1), sl', ec + 1, dup es ec s, dup et ec n, ?_, ⟨?_, ⟨S', ?_, hS', hT', by omega⟩, hB', mw_at (by omega), fun i hi => ?_, by omega, ?_, fun i hi hi2 => ?_⟩, by omega, ks, fun x hx => ?_, ?_, fun j j1 j2 => ?_, 1, rfl, fun i hi => if_neg (by omega), fun i i1 i2 => if_pos (by omega)⟩
      · rw [e1, e_obi2, if_neg (nI_m1 (by omega)), c11, e_oli2, e_gd (by omega) (by omega), e_ix2 (by omega), e_oml2, mw_oth (by omega), c11, e_oli2, e_oml2, e_add]
      · exact WKR_e w1 (by rw [mw_ne (by omega), mw_oth (by omega)]) (by rw [mw_ne (by omega), mw_oth (by omega)]) (fun x x1 x2 => by rw [mw_oth (by omega), mw_oth (by omega)])
      · exact CVS_e v1 (fun x _ _ => by rw [mw_oth (by omega), mw_oth (by omega)])
      · rw [mw_oth (by omega)]
        unfold dup
        by_cases c : i = ec
        · rw [if_pos c, c, mw_at (by omega)]
        · rw [if_neg c, mw_ne c, f2 107 (by omega) (by omega) (by omega), m7o 107 (by omega)]
          exact h107 i (by omega)
      · rw [mw_ne (by omega), mw_oth (by omega), f1 16 (by omega), m7o 100 (by omega), h16]
      · rw [ks] at hi2 ⊢
        by_cases c : i = k
        · subst c
          refine ⟨n, by omega, ?_, ?_⟩
          · rw [EE_s]
            exact Or.inr ⟨rfl, rfl⟩
          · unfold kup
            rw [if_pos rfl]
            exact hK'
        · obtain ⟨t', q1, q2, q3⟩ := hd i (by omega) hi2
          refine ⟨t', by omega, ?_, ?_⟩
          · rw [EE_s]
            exact Or.inl q2
          · unfold kup
            rw [if_neg (by omega)]
            exact q3
      · rw [mw_oth (by omega), mw_oth (by omega), f2 x (by omega) (by omega) (by omega), m7o x (by omega)]
      · rw [mw_oth (by omega), mw_oth (by omega), f2 108 (by omega) (by omega) (by omega), m7o 108 (by omega)]
      · rw [mw_ne (by omega), mw_oth (by omega), f1 j (by omega), m7o 100 (by omega)]
    · right
      subst hn
      refine ⟨BF_full hB hs hk hK' hS' hne, M', ?_, f1, ⟨S', v1, hS', hT', h9'⟩, fun x hx => ?_, ?_, ?_, ?_, fun j j1 j2 => ?_⟩
      · rw [e1, e_obi2, if_pos rfl]
      · rw [f2 x (by omega) (by omega), m7o x (by omega)]
      · rw [f2 104 (by omega) (by omega), m7o 104 (by omega)]
      · rw [f3 11 (by omega), m7o 100 (by omega)]
      · exact WKR_e hw7 (f3 10 (by omega)) (f3 15 (by omega)) (fun x x1 x2 => f2 x (by omega) (by omega))
      · rw [f3 j (by omega), m7o 100 (by omega)]
