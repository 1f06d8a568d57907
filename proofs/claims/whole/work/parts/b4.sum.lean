/-! ===== the class sums up ===== -/
theorem x_hm10 {M : j_M} {K : a_S} {s N k : Nat} (hs : s < 250) (hN : N ≤ 6) (h12 : M 100 12 = nI N) (hc : ∀ j, j < 16 * (N + 1) → M 102 (112 * s + j) = nI (cell K j)) (hK : INV K z0) : ∀ (m c : Nat), c + m = N → xX10_hasMiss_10 (k + m + 1) (nI (s * 112 + 15)) (nI c) M = some (nI (if fr (fun c => K 292 c ≠ 0) m c ≠ 0 then 1 else 0), M)
  | 0, c, h => by
    rw [show k + 0 + 1 = k + 1 from rfl, xX10_hasMiss_10.eq_2, h12, e_oli2, if_pos (by rw [e_le (by omega) (by omega)]; omega)]
    rfl
  | m + 1, c, h => by
    have hb : bk c = 16 * (c + 1) := by
      unfold bk
      omega
    have e1 : cell K (16 * (c + 1) + 15) = msv K c := by
      unfold cell
      rw [show (16 * (c + 1) + 15) % 16 = 15 by omega, show (16 * (c + 1) + 15) / 16 = c + 1 by omega, if_neg (by omega), if_neg (by omega), if_neg (by omega), if_neg (by omega), show c + 1 - 1 = c by omega]
    have ml := msv_lt (c := c) hK.1
    have m0 := msv_0 (c := c) hK.2.2.2.2.2.2.2.1 (by omega)
    rw [show k + (m + 1) + 1 = (k + m + 1) + 1 by omega, xX10_hasMiss_10.eq_2, h12, e_oli2, if_neg (by rw [e_le (by omega) (by omega)]; omega), x_blk (by omega), e_obi2, hb, e_add, e_gd (by omega) (by omega), e_ix2 (by omega), show s * 112 + 15 + 16 * (c + 1) = 112 * s + (16 * (c + 1) + 15) by omega, hc _ (by omega), e1, e_oli2, e_add, x_hm10 hs hN h12 hc hK m (c + 1) (by omega)]
    have ef : fr (fun c => K 292 c ≠ 0) (m + 1) c = if K 292 c ≠ 0 then c + 1 else fr (fun c => K 292 c ≠ 0) m (c + 1) := rfl
    rw [ef]
    by_cases q : K 292 c = 0
    · rw [if_pos (by rw [m0.2 q]; decide), if_neg (show ¬ K 292 c ≠ 0 from fun w => w q)]
    · rw [if_neg (by rw [e_eq0 ml]; exact fun w => q (m0.1 w)), if_pos (show K 292 c ≠ 0 from q), if_pos (show c + 1 ≠ 0 by omega)]
theorem BF_d {S0 : a_S} {n s : Nat} {κ : Nat → a_S} {d : Nat → Nat} {E : Nat → Nat → Prop} (h : BF S0 n κ d E s) : ∀ t, t < n → d t ≤ t := by
  intro t
  induction t using Nat.strongRecOn with
  | _ t ih =>
    intro ht
    by_cases c : t = 0
    · rw [c, h.2.2.1]; exact Nat.le_refl _
    · obtain ⟨a, a1, a2, a3⟩ := h.2.2.2.2.2.2.2.2.1 t (by omega) ht
      have := ih a a1 (by omega)
      omega
theorem x_su9 {M : j_M} {S0 : a_S} {n k s0 : Nat} {κ : Nat → a_S} {d sl : Nat → Nat} {E : Nat → Nat → Prop} (hw : WKR M S0 n κ d sl) (hB : BF S0 n κ d E s0) (h12 : M 100 12 = nI (S0 1 0)) : ∀ (m s : Nat) (few : Int32), s + m = n → FEW κ d s few → ∃ few', FEW κ d n few' ∧ xX10_sumUp_9 (k + m + 1) (nI (sm (fun s => qui (κ s)) s)) (nI (sm (fun s => qmi (κ s)) s)) few (nI s) M = xX10_sumUp_9 (k + 1) (nI (sm (fun s => qui (κ s)) n)) (nI (sm (fun s => qmi (κ s)) n)) few' (nI n) M := by
  intro m
  induction m with
  | zero =>
    intro s few hs hf
    have : s = n := by omega
    subst this
    exact ⟨few, hf, rfl⟩
  | succ m ih =>
    intro s few hs hf
    have hsn : s < n := by omega
    obtain ⟨a1, a2, a3, a4, a5, a6, a7⟩ := hw
    obtain ⟨b1, b2, b3, b4, b5⟩ := a4 s hsn
    have n6 := g_n b3.1.1
    have eN := b3.2.1.1
    rw [eN] at n6
    have hm : xX10_hasMiss (nI s) M = some (nI (if fr (fun c => κ s 292 c ≠ 0) (S0 1 0) 0 ≠ 0 then 1 else 0), M) := by
      unfold xX10_hasMiss
      rw [e_mul, e_add, show fu = (999999 - S0 1 0) + S0 1 0 + 1 by unfold fu; omega]
      exact x_hm10 (by omega) n6 h12 b1.2.2 b3.1 (S0 1 0) 0 (by omega)
    have q1 : sm (fun s => qui (κ s)) (s + 1) = sm (fun s => qui (κ s)) s + qui (κ s) := rfl
    have q2 : sm (fun s => qmi (κ s)) (s + 1) = sm (fun s => qmi (κ s)) s + qmi (κ s) := rfl
    have e9 : ∀ l1 l2 l3 : Int32, xX10_sumUp_9 (k + (m + 1) + 1) l1 l2 l3 (nI s) M = if κ s 1 7 = 0 then (if l3 = (-1 : Int32) then xX10_sumUp_47 (xX10_sumUp_9 (k + m + 1)) (l1 + nI 1) l2 (nI s) (nI (d s)) M else xX10_sumUp_47 (xX10_sumUp_9 (k + m + 1)) (l1 + nI 1) l2 (nI s) l3 M) else xX10_sumUp_9 (k + m + 1) l1 l2 l3 (nI (s + 1)) M := by
      intro l1 l2 l3
      rw [show k + (m + 1) + 1 = (k + m + 1) + 1 by omega, xX10_sumUp_9.eq_2, a2, e_oli2, if_neg (by rw [e_le (by omega) (by omega)]; omega), e_gd (by omega) (by omega), e_ix2 (by omega), b1.1, e_oli2, e_gd (by omega) (by omega), b2, e_oli2, e_add]
      by_cases c : κ s 1 7 = 0
      · rw [if_pos c, if_pos (by rw [c]; decide)]
      · rw [if_neg c, if_neg (by rw [e_eq0 (by omega)]; exact c)]
    have e47 : ∀ (l1 : Int32) (l2 : Nat) (l3 : Int32), xX10_sumUp_47 (xX10_sumUp_9 (k + m + 1)) l1 (nI l2) (nI s) l3 M = xX10_sumUp_9 (k + m + 1) l1 (nI (l2 + (if fr (fun c => κ s 292 c ≠ 0) (S0 1 0) 0 ≠ 0 then 1 else 0))) l3 (nI (s + 1)) M := by
      intro l1 l2 l3
      unfold xX10_sumUp_47 xX10_sumUp_63
      rw [hm, e_obi2, e_add, e_add, e_add]
      by_cases c : fr (fun c => κ s 292 c ≠ 0) (S0 1 0) 0 ≠ 0
      · rw [if_pos c, if_neg (by decide)]
      · rw [if_neg c, if_pos (by decide)]
    by_cases c : κ s 1 7 = 0
    · have qq1 : qui (κ s) = 1 := if_pos c
      have qq2 : qmi (κ s) = if fr (fun c => κ s 292 c ≠ 0) (S0 1 0) 0 ≠ 0 then 1 else 0 := by
        unfold qmi
        rw [eN]
        by_cases w : fr (fun c => κ s 292 c ≠ 0) (S0 1 0) 0 ≠ 0
        · rw [if_pos ⟨c, w⟩, if_pos w]
        · rw [if_neg (fun v => w v.2), if_neg w]
      rcases hf with ⟨rfl, hf⟩ | ⟨t, t1, t2, t3, t4⟩
      · obtain ⟨few', g1, g2⟩ := ih (s + 1) (nI (d s)) (by omega) (Or.inr ⟨s, by omega, c, rfl, fun t ht ht2 => by
          by_cases w : t = s
          · rw [w]; exact Nat.le_refl _
          · exact absurd ht2 (hf t (by omega))⟩)
        refine ⟨few', g1, ?_⟩
        rw [q1, q2, qq1, qq2] at g2
        rw [e9, if_pos c, if_pos rfl, e_add, e47, g2]
      · have hd := BF_d hB t (by omega)
        obtain ⟨few', g1, g2⟩ := ih (s + 1) few (by omega) (Or.inr ⟨t, by omega, t2, t3, fun u hu hu2 => by
          by_cases w : u = s
          · rw [w]; exact hB.2.2.2.2.2.1 t s (by omega) hsn
          · exact t4 u (by omega) hu2⟩)
        refine ⟨few', g1, ?_⟩
        rw [q1, q2, qq1, qq2] at g2
        rw [e9, if_pos c, if_neg (by rw [t3]; exact nI_m1 (by omega)), e_add, e47, g2]
    · have qq1 : qui (κ s) = 0 := if_neg c
      have qq2 : qmi (κ s) = 0 := if_neg (fun v => c v.1)
      obtain ⟨few', g1, g2⟩ := ih (s + 1) few (by omega) (by
        rcases hf with ⟨v, hf⟩ | ⟨t, t1, t2, t3, t4⟩
        · refine Or.inl ⟨v, fun t ht => ?_⟩
          by_cases w : t = s
          · rw [w]; exact c
          · exact hf t (by omega)
        · refine Or.inr ⟨t, by omega, t2, t3, fun u hu hu2 => ?_⟩
          by_cases w : u = s
          · rw [w] at hu2; exact absurd hu2 c
          · exact t4 u (by omega) hu2)
      refine ⟨few', g1, ?_⟩
      rw [q1, q2, qq1, qq2] at g2
      simp only [Nat.add_zero] at g2
      rw [e9, if_neg c, g2]
theorem x_sumUp {M : j_M} {S0 : a_S} {n b ec : Nat} {κ : Nat → a_S} {d sl es et ee : Nat → Nat} (h : XST M S0 n κ d sl ec es et n 0 b) (hE : EDS M n ec es ee) (h12 : M 100 12 = nI (S0 1 0)) : ∃ M', xX10_sumUp M = some M' ∧ WANS S0 (M' 101) ∧ (∀ x, x ≠ 101 → x ≠ 109 → x ≠ 110 → M' x = M x) := by
  obtain ⟨hw, hT, hB, h11, h107, hec, h16, hd⟩ := h
  have n250 := hw.1
  have hw' := hw
  obtain ⟨a1, a2, a3, a4, a5, a6, a7⟩ := hw'
  have hG := BF_end hB
  have hn := hB.1
  have hWED : ∀ M' : j_M, M' 100 = M 100 → M' 107 = M 107 → M' 108 = M 108 → WED M' n ec es et ee := by
    intro M' e1 e2 e3
    refine WED_e (M := M) ⟨n250, by omega, a2, h11, fun i hi => ⟨h107 i hi, ?_, ?_⟩, fun t ht => hE.1 t ht, hE.2.1⟩ e1 e2 e3
    · exact (hB.2.2.2.2.2.2.2.1 (es i) (et i) ⟨i, hi, rfl, rfl⟩).2.1
    · exact hE.2.2.1 i hi
  obtain ⟨few, hf, e1⟩ := x_su9 (k := 999999 - n) hw hB h12 n 0 (-1) (by omega) (Or.inl ⟨rfl, fun s hs => absurd hs (Nat.not_lt_zero _)⟩)
  have b1 := sm_le (g := fun s => qui (κ s)) (g' := fun _ => 1) n (fun j _ => by show qui (κ j) ≤ 1; unfold qui; split <;> omega)
  have b2 := sm_le (g := fun s => qmi (κ s)) (g' := fun _ => 1) n (fun j _ => by show qmi (κ j) ≤ 1; unfold qmi; split <;> omega)
  rw [sm_1] at b1 b2
  generalize hA : sm (fun s => qui (κ s)) n = A at *
  generalize hC : sm (fun s => qmi (κ s)) n = C at *
  let M6 : j_M := mw (mw (mw (mw M 101 0 (nI n)) 101 1 (nI A)) 101 2 (nI C)) 101 3 few
  have o6 : ∀ x, x ≠ 101 → M6 x = M x := fun x hx => by
    show mw (mw (mw (mw M 101 0 (nI n)) 101 1 (nI A)) 101 2 (nI C)) 101 3 few x = M x
    rw [mw_oth hx, mw_oth hx, mw_oth hx, mw_oth hx]
  obtain ⟨z, M7, e2, f2, hz⟩ := x_ccb (hWED M6 (o6 100 (by omega)) (o6 107 (by omega)) (o6 108 (by omega))) hn
  have hz2 : z = 0 ∨ z = 1 := by
    rcases hz with ⟨q, _⟩ | ⟨q, _⟩
    · exact Or.inr q
    · exact Or.inl q
  have ef : xX10_sumUp M = some (mw M7 101 4 (nI z)) := by
    unfold xX10_sumUp
    rw [show fu = 999999 - n + n + 1 by unfold fu; omega]
    have e1' : xX10_sumUp_9 (999999 - n + n + 1) (nI 0) (nI 0) (-1) (nI 0) M = xX10_sumUp_9 (999999 - n + 1) (nI A) (nI C) few (nI n) M := e1
    rw [e1', xX10_sumUp_9.eq_2, a2, e_oli2, if_pos (by rw [e_le (by omega) (by omega)]; omega), e_oli2, e_gd (by omega) (by omega), e_ix2 (by omega), e_oml2, e_gd (by omega) (by omega), e_ix2 (by omega), e_oml2, e_gd (by omega) (by omega), e_ix2 (by omega), e_oml2, e_gd (by omega) (by omega), e_ix2 (by omega), e_oml2]
    show (obi (xX10_canComeBack M6) fun v8 M7 => _) = _
    rw [e2, e_obi2]
    unfold xX10_sumUp_119
    rw [e_gd (by omega) (by omega), e_ix2 (by omega), e_oml2, e_oml2]
    rcases hz2 with rfl | rfl
    · rw [if_pos (by decide)]
    · rw [if_neg (by decide), e_gd (by omega) (by omega)]
  refine ⟨_, ef, ?_, fun x x1 x2 x3 => by rw [mw_oth x1, f2 x x2 x3, o6 x x1]⟩
  have m7 : ∀ j, M7 101 j = M6 101 j := fun j => by rw [f2 101 (by omega) (by omega)]
  have c0 : M6 101 0 = nI n := by
    show mw (mw (mw (mw M 101 0 (nI n)) 101 1 (nI A)) 101 2 (nI C)) 101 3 few 101 0 = _
    rw [mw_ne (by omega), mw_ne (by omega), mw_ne (by omega), mw_at (by omega)]
  have c1 : M6 101 1 = nI A := by
    show mw (mw (mw (mw M 101 0 (nI n)) 101 1 (nI A)) 101 2 (nI C)) 101 3 few 101 1 = _
    rw [mw_ne (by omega), mw_ne (by omega), mw_at (by omega)]
  have c2 : M6 101 2 = nI C := by
    show mw (mw (mw (mw M 101 0 (nI n)) 101 1 (nI A)) 101 2 (nI C)) 101 3 few 101 2 = _
    rw [mw_ne (by omega), mw_at (by omega)]
  have c3 : M6 101 3 = few := mw_at (by omega)
  refine Or.inr ⟨n, κ, d, EE ec es et, hG, fun s hs => (hB.2.2.2.2.1 s hs).2.1, n250, fun s hs => (hB.2.2.2.2.1 s hs).2.2, ?_, ?_, ?_, ?_, ?_⟩
  · rw [mw_ne (by omega), m7, c0]
  · rw [mw_ne (by omega), m7, c1, hA]
  · rw [mw_ne (by omega), m7, c2, hC]
  · rw [mw_ne (by omega), m7, c3]
    exact hf
  · rw [mw_at (by omega)]
    rcases hz with ⟨rfl, q⟩ | ⟨rfl, q⟩
    · exact Or.inl ⟨q, rfl⟩
    · exact Or.inr ⟨q, rfl⟩
