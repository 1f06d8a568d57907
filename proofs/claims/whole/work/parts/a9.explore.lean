theorem XST_k {M : j_M} {S0 : a_S} {n ec s k b : Nat} {κ : Nat → a_S} {d sl es et : Nat → Nat} (h : XST M S0 n κ d sl ec es et s k b) (hk : k < κ s 1 7 → ∃ t, t < n ∧ EE ec es et s t ∧ KEQ (a_del (κ s) k) (κ t)) : XST M S0 n κ d sl ec es et s (k + 1) b := by
  obtain ⟨a1, ⟨S, b1, b2, b3, b4⟩, a3, a4, a5, a6, a7, a8⟩ := h
  refine ⟨a1, ⟨S, b1, b2, b3, by omega⟩, a3, a4, a5, by omega, a7, fun i h1 h2 => ?_⟩
  by_cases c : i = k
  · subst c; exact hk h2
  · exact a8 i (by omega) h2
theorem TWF_t {M M' M'' : j_M} (h : TWF M M') (h2 : TWF M' M'') : TWF M M'' := fun x hx => by rw [h2 x hx, h x hx]
theorem x_161 {M : j_M} {s ec : Nat} (hs : s < 250) (h11 : M 100 11 = nI ec) : xX10_expand_161 70 (nI s) M = some (mw M 108 s (nI ec)) := by
  unfold xX10_expand_161
  rw [h11, e_oli2, e_gd (by omega) (by omega), e_ix2 (by omega), e_oml2]
theorem x_exp8 {S0 K : a_S} {s b f : Nat} (hs250 : s < 250) (hb : b ≤ 2000000000) : ∀ (m k : Nat) (M : j_M) (n : Nat) (κ : Nat → a_S) (d sl : Nat → Nat) (ec : Nat) (es et : Nat → Nat), k + m = K 1 7 → XST M S0 n κ d sl ec es et s k b → s < n → κ s = K → (∃ M' n' κ' d' sl' ec' es' et', xX10_expand_8 70 (f + m + 1) (nI s) (nI (s * 24)) (nI k) M = some (mw M' 108 s (nI ec')) ∧ XST M' S0 n' κ' d' sl' ec' es' et' s (K 1 7) b ∧ s < n' ∧ κ' s = K ∧ TWF M M' ∧ M' 108 = M 108 ∧ (∀ j, 12 ≤ j → j ≤ 15 → M' 100 j = M 100 j) ∧ ec ≤ ec' ∧ (∀ i, i < ec → es' i = es i) ∧ (∀ i, ec ≤ i → i < ec' → es' i = s)) ∨ (TMU S0 ∧ ∃ M', xX10_expand_8 70 (f + m + 1) (nI s) (nI (s * 24)) (nI k) M = some M' ∧ M' 100 16 = nI 1 ∧ THN M' S0 (b + 2 * (24 * s + K 1 7)) ∧ TWF M M' ∧ ∃ n' κ' d' sl', WKR M' S0 n' κ' d' sl' ∧ 0 < n' ∧ KEQ (κ' 0) S0 ∧ (∀ j, 12 ≤ j → j ≤ 15 → M' 100 j = M 100 j)) := by
  intro m
  induction m with
  | zero =>
    intro k M n κ d sl ec es et hk h hs hK
    obtain ⟨b1, b2, b3, b4, b5⟩ := h.1.2.2.2.1 s hs
    rw [hK] at b1 b5
    have hk' : k = K 1 7 := by omega
    subst hk'
    refine Or.inl ⟨M, n, κ, d, sl, ec, es, et, ?_, h, hs, hK, fun _ _ => rfl, rfl, fun _ _ _ => rfl, Nat.le_refl _, fun _ _ => rfl, fun i h1 h2 => by omega⟩
    rw [show f + 0 + 1 = f + 1 from rfl, xX10_expand_8.eq_2, e_gd (by omega) (by omega), e_ix2 (by omega), b1.1, e_oli2, if_pos (by rw [e_le (by omega) (by omega)]; omega), x_161 hs250 h.2.2.2.1]
  | succ m ih =>
    intro k M n κ d sl ec es et hk h hs hK
    obtain ⟨b1, b2, b3, b4, b5⟩ := h.1.2.2.2.1 s hs
    have hkc : k < κ s 1 7 := by rw [hK]; omega
    have st : xX10_expand_8 70 (f + (m + 1) + 1) (nI s) (nI (s * 24)) (nI k) M = if k ≠ 0 ∧ lcv (fd K k) = lcv (fd K (k - 1)) then xX10_expand_8 70 (f + m + 1) (nI s) (nI (s * 24)) (nI (k + 1)) M else xX10_expand_57 (xX10_expand_8 70 (f + m + 1)) 70 (nI s) (nI (s * 24)) (nI k) M := by
      rw [hK] at b1 b3 b5 hkc
      rw [show f + (m + 1) + 1 = (f + m + 1) + 1 by omega, xX10_expand_8.eq_2, e_gd (by omega) (by omega), e_ix2 (by omega), b1.1, e_oli2, if_neg (by rw [e_le (by omega) (by omega)]; omega), h.2.2.2.2.2.2.1, e_oli2, if_pos (by decide)]
      by_cases c0 : k = 0
      · rw [if_pos (by rw [c0]; decide), if_neg (by omega)]
      · have l1 := lcv_lt b3.1.1 b3.1.2.2.2.1 (i := k) hkc
        have l2 := lcv_lt b3.1.1 b3.1.2.2.2.1 (i := k - 1) (by omega)
        rw [if_neg (by rw [e_le0 (by omega)]; omega), e_add, e_gd (by omega) (by omega), e_ix2 (by omega), show s * 24 + k = 24 * s + k by omega, b1.2.1 k hkc, e_oli2, e_sub (by omega), e_gd (by omega) (by omega), e_ix2 (by omega), show 24 * s + k - 1 = 24 * s + (k - 1) by omega, b1.2.1 (k - 1) (by omega), e_oli2, f_eq l1 l2, e_add]
        by_cases c1 : lcv (fd K k) = lcv (fd K (k - 1))
        · rw [if_pos c1, if_pos ⟨c0, c1⟩]
        · rw [if_neg c1, if_neg (fun q => c1 q.2)]
    rw [st]
    by_cases c : k ≠ 0 ∧ lcv (fd K k) = lcv (fd K (k - 1))
    · rw [if_pos c]
      have h' : XST M S0 n κ d sl ec es et s (k + 1) b := by
        refine XST_k h (fun _ => ?_)
        obtain ⟨t, t1, t2, t3⟩ := h.2.2.2.2.2.2.2 (k - 1) (by omega) (by omega)
        refine ⟨t, t1, t2, KEQ_t (KEQ_del KEQ_r hkc (by omega) ?_) t3⟩
        rw [← hK] at c
        exact lcv_in b3.1.1 b3.1.2.2.2.1 hkc b3.1.1 b3.1.2.2.2.1 (by omega) c.2
      exact ih (k + 1) M n κ d sl ec es et (by omega) h' hs hK
    · rw [if_neg c]
      rcases x_step h hs hkc hb (xX10_expand_8 70 (f + m + 1)) with ⟨M', n', κ', d', sl', ec', es', et', e1, h1, h2, h3, h4, h5, h6, z, hz, h7, h8⟩ | ⟨hT, M', e1, h1, h2, h3, h4, h5, h6, h7⟩
      · rw [e1]
        rcases ih (k + 1) M' n' κ' d' sl' ec' es' et' (by omega) h1 h2 (by rw [h3, hK]) with ⟨M'', n'', κ'', d'', sl'', ec'', es'', et'', g1, g2, g3, g4, g5, g6, g7, g8, g9, g10⟩ | ⟨hT, M'', g1, g2, g3, g4, g5⟩
        · refine Or.inl ⟨M'', n'', κ'', d'', sl'', ec'', es'', et'', g1, g2, g3, g4, TWF_t h4 g5, by rw [g6, h5], fun j j1 j2 => by rw [g7 j j1 j2, h6 j j1 j2], by omega, fun i hi => by rw [g9 i (by omega), h7 i hi], fun i i1 i2 => ?_⟩
          by_cases w : i < ec'
          · rw [g9 i w, h8 i i1 w]
          · exact g10 i (by omega) i2
        · obtain ⟨n1, κ1, d1, sl1, w1, w2, w3, w4⟩ := g5
          exact Or.inr ⟨hT, M'', g1, g2, g3, TWF_t h4 g4, n1, κ1, d1, sl1, w1, w2, w3, fun j j1 j2 => by rw [w4 j j1 j2, h6 j j1 j2]⟩
      · right
        rw [hK] at b1 b5 hkc
        refine ⟨hT, mw M' 108 s (nI ec), ?_, by rw [mw_oth (by omega)]; exact h1, ?_, fun x hx => ?_, n, κ, d, sl, WKR_e h6 (by rw [mw_oth (by omega)]) (by rw [mw_oth (by omega)]) (fun x x1 x2 => mw_oth (by omega)), h.2.2.1.1, h.2.2.1.2.1, fun j j1 j2 => by rw [mw_oth (by omega)]; exact h7 j j1 j2⟩
        · rw [e1, xX10_expand_8.eq_2, e_gd (by omega) (by omega), e_ix2 (by omega), h4, b1.1, e_oli2, x_161 hs250 (by rw [h5]; exact h.2.2.2.1), h1, e_oli2]
          by_cases w : nI (K 1 7) ≤ nI (k + 1)
          · rw [if_pos w]
          · rw [if_neg w, if_neg (by decide)]
        · obtain ⟨S, q1, q2, q3, q4⟩ := h2
          exact ⟨S, CVS_e q1 (fun x _ _ => mw_oth (by omega)), q2, q3, by omega⟩
        · rw [mw_oth (by omega), h3 x hx]
def stE (ee : Nat → Nat) (t : Nat) : Nat := if t = 0 then 0 else ee (t - 1)
/-- whose edges lie where -/
def EDS (M : j_M) (s ec : Nat) (es ee : Nat → Nat) : Prop := (∀ t, t < s → M 108 t = nI (ee t) ∧ ee t ≤ ec ∧ stE ee t ≤ ee t) ∧ (∀ t, t < s → ∀ i, i < ec → (es i = t ↔ stE ee t ≤ i ∧ i < ee t)) ∧ (∀ i, i < ec → es i < s) ∧ stE ee s = ec
theorem x_expl {S0 : a_S} {b f : Nat} (hb : b ≤ 2000000000) : ∀ (m s : Nat) (M : j_M) (n : Nat) (κ : Nat → a_S) (d sl : Nat → Nat) (ec : Nat) (es et ee : Nat → Nat), s + m = 250 → XST M S0 n κ d sl ec es et s 0 b → s ≤ n → EDS M s ec es ee → (∃ M' n' κ' d' sl' ec' es' et' ee', xX10_explore_69 70 (f + m + 1) (nI s) M = xX10_explore_103 70 M' ∧ XST M' S0 n' κ' d' sl' ec' es' et' n' 0 b ∧ EDS M' n' ec' es' ee' ∧ TWF M M' ∧ (∀ j, 12 ≤ j → j ≤ 15 → M' 100 j = M 100 j)) ∨ (TMU S0 ∧ ∃ M', xX10_explore_69 70 (f + m + 1) (nI s) M = xX10_explore_103 70 M' ∧ M' 100 16 = nI 1 ∧ THN M' S0 (b + 12000) ∧ TWF M M' ∧ ∃ n' κ' d' sl', WKR M' S0 n' κ' d' sl' ∧ 0 < n' ∧ KEQ (κ' 0) S0 ∧ (∀ j, 12 ≤ j → j ≤ 15 → M' 100 j = M 100 j)) := by
  intro m
  induction m with
  | zero =>
    intro s M n κ d sl ec es et ee hm h hs hE
    have hn := h.1.1
    have : s = n := by omega
    subst this
    refine Or.inl ⟨M, s, κ, d, sl, ec, es, et, ee, ?_, h, hE, fun _ _ => rfl, fun _ _ _ => rfl⟩
    rw [xX10_explore_69.eq_2, h.1.2.1, e_oli2, if_pos (by rw [e_le (by omega) (by omega)]; omega)]
  | succ m ih =>
    intro s M n κ d sl ec es et ee hm h hs hE
    have hn := h.1.1
    by_cases c : s = n
    · subst c
      refine Or.inl ⟨M, s, κ, d, sl, ec, es, et, ee, ?_, h, hE, fun _ _ => rfl, fun _ _ _ => rfl⟩
      rw [xX10_explore_69.eq_2, h.1.2.1, e_oli2, if_pos (by rw [e_le (by omega) (by omega)]; omega)]
    · have hsn : s < n := by omega
      have hK24 := (h.1.2.2.2.1 s hsn).2.2.2.2
      have st : xX10_explore_69 70 (f + (m + 1) + 1) (nI s) M = obv (xX10_expand_8 70 (999999 - κ s 1 7 + κ s 1 7 + 1) (nI s) (nI (s * 24)) (nI 0) M) fun M3 => xX10_explore_69 70 (f + m + 1) (nI (s + 1)) M3 := by
        rw [show f + (m + 1) + 1 = (f + m + 1) + 1 by omega, xX10_explore_69.eq_2, h.1.2.1, e_oli2, if_neg (by rw [e_le (by omega) (by omega)]; omega), if_neg (by rw [e_le (by omega) (by omega)]; omega), h.2.2.2.2.2.2.1, e_oli2, if_pos (by decide), show 999999 - κ s 1 7 + κ s 1 7 + 1 = fu by unfold fu; omega, e_add]
        unfold xX10_expand
        rw [e_mul]
      rw [st]
      rcases x_exp8 (K := κ s) (f := 999999 - κ s 1 7) (by omega) hb (κ s 1 7) 0 M n κ d sl ec es et (by omega) h hsn rfl with ⟨M', n', κ', d', sl', ec', es', et', g1, g2, g3, g4, g5, g6, g7, g8, g9, g10⟩ | ⟨hT, M', g1, g2, g3, g4, n', κ', d', sl', g5, g6, g7, g8⟩
      · rw [g1, e_obv2]
        obtain ⟨q1, ⟨S, r1, r2, r3, r4⟩, q3, q4, q5, q6, q7, q8⟩ := g2
        have hB := BF_next q3 g3 (fun i hi => q8 i (by rw [g4] at hi; exact hi) hi)
        have h' : XST (mw M' 108 s (nI ec')) S0 n' κ' d' sl' ec' es' et' (s + 1) 0 b := by
          refine ⟨WKR_e q1 (by rw [mw_oth (by omega)]) (by rw [mw_oth (by omega)]) (fun x x1 x2 => mw_oth (by omega)), ⟨S, CVS_e r1 (fun x _ _ => mw_oth (by omega)), r2, r3, by omega⟩, hB, by rw [mw_oth (by omega)]; exact q4, fun i hi => by rw [mw_oth (by omega)]; exact q5 i hi, by omega, by rw [mw_oth (by omega)]; exact q7, fun i hi => absurd hi (Nat.not_lt_zero _)⟩
        obtain ⟨E1, E2, E3, E4⟩ := hE
        have hE' : EDS (mw M' 108 s (nI ec')) (s + 1) ec' es' (dup ee s ec') := by
          have dn : dup ee s ec' s = ec' := if_pos rfl
          have dl : ∀ t, t < s → dup ee s ec' t = ee t := fun t ht => if_neg (by omega)
          have sd : ∀ t, t ≤ s → stE (dup ee s ec') t = stE ee t := by
            intro t ht
            unfold stE
            by_cases w : t = 0
            · rw [if_pos w, if_pos w]
            · rw [if_neg w, if_neg w, dl (t - 1) (by omega)]
          refine ⟨fun t ht => ?_, fun t ht i hi => ?_, fun i hi => ?_, ?_⟩
          · by_cases w : t = s
            · subst w
              rw [dn, sd t (Nat.le_refl _), E4, mw_at (by omega)]
              exact ⟨rfl, Nat.le_refl _, g8⟩
            · have := E1 t (by omega)
              rw [dl t (by omega), sd t (by omega), mw_ne w, g6]
              exact ⟨this.1, by omega, this.2.2⟩
          · rw [sd t (by omega)]
            by_cases w : t = s
            · subst w
              rw [dn, E4]
              by_cases v : i < ec
              · rw [g9 i v]
                have := E3 i v
                constructor <;> intro u <;> omega
              · rw [g10 i (by omega) hi]
                constructor
                · intro _; omega
                · intro _; rfl
            · rw [dl t (by omega)]
              have e1 := E1 t (by omega)
              by_cases v : i < ec
              · rw [g9 i v]
                exact E2 t (by omega) i v
              · rw [g10 i (by omega) hi]
                constructor <;> intro u <;> omega
          · by_cases v : i < ec
            · rw [g9 i v]
              have := E3 i v
              omega
            · rw [g10 i (by omega) hi]
              omega
          · unfold stE
            rw [if_neg (by omega), show s + 1 - 1 = s by omega, dn]
        have tw : TWF M (mw M' 108 s (nI ec')) := fun x hx => by rw [mw_oth (by omega), g5 x hx]
        have tj : ∀ j, 12 ≤ j → j ≤ 15 → mw M' 108 s (nI ec') 100 j = M 100 j := fun j j1 j2 => by rw [mw_oth (by omega), g7 j j1 j2]
        rcases ih (s + 1) (mw M' 108 s (nI ec')) n' κ' d' sl' ec' es' et' (dup ee s ec') (by omega) h' (by omega) hE' with ⟨M'', n'', κ'', d'', sl'', ec'', es'', et'', ee'', k1, k2, k3, k4, k5⟩ | ⟨hT, M'', k1, k2, k3, k4, n1, κ1, d1, sl1, w1, w2, w3, w4⟩
        · exact Or.inl ⟨M'', n'', κ'', d'', sl'', ec'', es'', et'', ee'', k1, k2, k3, TWF_t tw k4, fun j j1 j2 => by rw [k5 j j1 j2, tj j j1 j2]⟩
        · exact Or.inr ⟨hT, M'', k1, k2, k3, TWF_t tw k4, n1, κ1, d1, sl1, w1, w2, w3, fun j j1 j2 => by rw [w4 j j1 j2, tj j j1 j2]⟩
      · right
        rw [g1, e_obv2]
        obtain ⟨S, r1, r2, r3, r4⟩ := g3
        refine ⟨hT, M', ?_, g2, ⟨S, r1, r2, r3, by omega⟩, g4, n', κ', d', sl', g5, g6, g7, g8⟩
        rw [xX10_explore_69.eq_2, g5.2.1, e_oli2]
        by_cases w : nI n' ≤ nI (s + 1)
        · rw [if_pos w]
        · rw [if_neg w]
          by_cases w2 : nI 250 ≤ nI (s + 1)
          · rw [if_pos w2]
          · rw [if_neg w2, g2, e_oli2, if_neg (by decide)]
