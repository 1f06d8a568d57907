/-! ===== the reference tells ===== -/
def FD (κ : Nat → a_S) (d : Nat → Nat) (lo n : Nat) (v : Int32) : Prop := (v = -1 ∧ ∀ t, lo ≤ t → t < n → κ t 1 7 ≠ 0) ∨ (∃ t, lo ≤ t ∧ t < n ∧ κ t 1 7 = 0 ∧ v = nI (d t) ∧ ∀ u, lo ≤ u → u < n → κ u 1 7 = 0 → d t ≤ d u)
theorem r_hm2 {N : j_M} {S K : a_S} {s nc f : Nat} (hs : s < 250) (hN : nc ≤ 6) (h0 : S 1 0 = nc) (hw : STW N s K) (hK : RG K) : ∀ (m c : Nat), c + m = nc → xX12_hasMiss_2 (f + m + 1) (nI s) (nI c) (RS N S) = some (nI (if fr (fun c => K 292 c ≠ 0) m c ≠ 0 then 1 else 0), RS N S)
  | 0, c, h => by
    rw [show f + 0 + 1 = f + 1 from rfl, xX12_hasMiss_2.eq_2, e_gd (by omega) (by omega), e_ix2 (by omega), sr_1 (by omega), h0, e_oli2, if_pos (by rw [e_le (by omega) (by omega)]; omega)]
    rfl
  | m + 1, c, h => by
    have e1 : N 211 (729 * s + 292 - 14 + c) = oI (K 292 c) := by
      have := hw (278 + c) (by omega)
      unfold FW at this
      rw [if_pos (by omega), show 14 + (278 + c) = 292 + c by omega, fl_292 (by omega)] at this
      rw [show 729 * s + 292 - 14 + c = 729 * s + (278 + c) by omega, this]
      unfold enc
      rw [if_pos (Or.inl rfl)]
    have k8 := g_8 hK 292 c (by omega)
    rw [show f + (m + 1) + 1 = (f + m + 1) + 1 by omega, xX12_hasMiss_2.eq_2, e_gd (by omega) (by omega), e_ix2 (by omega), sr_1 (by omega), h0, e_oli2, if_neg (by rw [e_le (by omega) (by omega)]; omega), e_mul, e_add, e_sub (by omega), e_add, e_gd (by omega) (by omega), e_ix2 (by omega), rs_o (by omega), e1, e_oli2, f_om1 (by omega), e_add, r_hm2 hs hN h0 hw hK m (c + 1) (by omega)]
    have ef : fr (fun c => K 292 c ≠ 0) (m + 1) c = if K 292 c ≠ 0 then c + 1 else fr (fun c => K 292 c ≠ 0) m (c + 1) := rfl
    rw [ef]
    by_cases q : K 292 c = 0
    · rw [if_pos q, if_neg (show ¬ K 292 c ≠ 0 from fun w => w q)]
    · rw [if_neg q, if_pos (show K 292 c ≠ 0 from q), if_pos (show c + 1 ≠ 0 by omega)]
theorem r_t15 {N : j_M} {S0 S : a_S} {n f s0 : Nat} {κ : Nat → a_S} {d : Nat → Nat} {E : Nat → Nat → Prop} {l1 : Int32} (hw : RKR N S0 n κ d) (hB : BF S0 n κ d E s0) (hS : S 1 0 = S0 1 0) : ∀ (p q r : Nat) (few : Int32), p ≤ n → q + sm (fun s => qui (κ s)) p = sm (fun s => qui (κ s)) n → r + sm (fun s => qmi (κ s)) p = sm (fun s => qmi (κ s)) n → FD κ d p n few → ∃ few', FEW κ d n few' ∧ xX12_tells_15 (f + p + 1) l1 (nI q) (nI r) few (nI p + (-1 : Int32)) (RS N S) = xX12_tells_15 (f + 1) l1 (nI (sm (fun s => qui (κ s)) n)) (nI (sm (fun s => qmi (κ s)) n)) few' (-1) (RS N S) := by
  intro p
  induction p with
  | zero =>
    intro q r few hp hq hr hf
    have z1 : sm (fun s => qui (κ s)) 0 = 0 := rfl
    have z2 : sm (fun s => qmi (κ s)) 0 = 0 := rfl
    refine ⟨few, ?_, ?_⟩
    · rcases hf with ⟨a, b⟩ | ⟨t, a, b, c, e, g⟩
      · exact Or.inl ⟨a, fun s hs => b s (Nat.zero_le _) hs⟩
      · exact Or.inr ⟨t, b, c, e, fun u hu hc => g u (Nat.zero_le _) hu hc⟩
    · rw [← hq, ← hr, z1, z2, show nI 0 + (-1 : Int32) = -1 by decide]
      rfl
  | succ p ih =>
    intro q r few hp hq hr hf
    obtain ⟨a1, a2, a3⟩ := hw
    obtain ⟨b1, b2, b3, b4, b5⟩ := a3 p (by omega)
    have n6 := g_n b3.1.1
    have eN := b3.2.1.1
    have dp := BF_d hB p (by omega)
    have q1 : sm (fun s => qui (κ s)) (p + 1) = sm (fun s => qui (κ s)) p + qui (κ p) := rfl
    have q2 : sm (fun s => qmi (κ s)) (p + 1) = sm (fun s => qmi (κ s)) p + qmi (κ p) := rfl
    rw [q1] at hq
    rw [q2] at hr
    have hm : xX12_hasMiss (nI p) (RS N S) = some (nI (if fr (fun c => κ p 292 c ≠ 0) (S0 1 0) 0 ≠ 0 then 1 else 0), RS N S) := by
      unfold xX12_hasMiss
      rw [show fu = (999999 - S0 1 0) + S0 1 0 + 1 by unfold fu; omega]
      exact r_hm2 (by omega) (by omega) hS b1 b3.1.1 (S0 1 0) 0 (by omega)
    have ew : N 211 (729 * p + 512) = nI (κ p 1 7) := by
      have := b1 512 (by omega)
      unfold FW at this
      rw [if_neg (by omega), if_pos rfl] at this
      exact this
    have hqt : xX12_isQuiet (nI p) (RS N S) = some (nI (qui (κ p)), RS N S) := by
      unfold xX12_isQuiet qui
      rw [e_mul, e_add, e_gd (by omega) (by omega), e_ix2 (by omega), rs_o (by omega), ew, e_oli2]
      by_cases c : κ p 1 7 = 0
      · rw [if_pos (by rw [c]; decide), if_pos c]
      · rw [if_neg (by rw [e_eq0 (by omega)]; exact c), if_neg c]
    have r12 : RS N S 212 p = nI (d p) := by rw [rs_o (by omega)]; exact b2
    rw [show f + (p + 1) + 1 = (f + p + 1) + 1 by omega, nI_prm, xX12_tells_15.eq_2, if_neg (by rw [e_lt0 (by omega)]; omega), hqt, e_obi2, hm, e_obi2]
    by_cases c : κ p 1 7 = 0
    · have qq1 : qui (κ p) = 1 := if_pos c
      have qq2 : qmi (κ p) = if fr (fun c => κ p 292 c ≠ 0) (S0 1 0) 0 ≠ 0 then 1 else 0 := by
        unfold qmi
        rw [eN]
        by_cases w : fr (fun c => κ p 292 c ≠ 0) (S0 1 0) 0 ≠ 0
        · rw [if_pos ⟨c, w⟩, if_pos w]
        · rw [if_neg (fun v => w v.2), if_neg w]
      rw [qq1] at hq
      rw [← qq2, qq1, if_neg (by decide), e_add]
      have e50 : (if nI (qmi (κ p)) = (0 : Int32) then xX12_tells_50 (xX12_tells_15 (f + p + 1)) l1 (nI (q + 1)) few (nI p) (nI r) (nI 0) (RS N S) else xX12_tells_50 (xX12_tells_15 (f + p + 1)) l1 (nI (q + 1)) few (nI p) (nI r) (nI 1) (RS N S)) = xX12_tells_50 (xX12_tells_15 (f + p + 1)) l1 (nI (q + 1)) few (nI p) (nI r) (nI (qmi (κ p))) (RS N S) := by
        have : qmi (κ p) = 0 ∨ qmi (κ p) = 1 := by unfold qmi; split <;> omega
        rcases this with w | w
        · rw [w, if_pos (by decide)]
        · rw [w, if_neg (by decide)]
      rw [e50]
      unfold xX12_tells_50 xX12_tells_70 xX12_tells_82
      rw [e_gd (by omega) (by omega), e_ix2 (by omega), r12, e_oli2, e_gd (by omega) (by omega), e_oli2, e_add]
      have new : (∀ t, p + 1 ≤ t → t < n → κ t 1 7 = 0 → d p ≤ d t) → FD κ d p n (nI (d p)) := by
        intro h
        refine Or.inr ⟨p, Nat.le_refl _, by omega, c, rfl, fun u h1 h2 h3 => ?_⟩
        by_cases w : u = p
        · rw [w]; exact Nat.le_refl _
        · exact h u (by omega) h2 h3
      rcases hf with ⟨rfl, hf⟩ | ⟨t, t1, t2, t3, t4, t5⟩
      · rw [if_pos rfl]
        exact ih (q + 1) (r + qmi (κ p)) (nI (d p)) (by omega) (by omega) (by omega) (new (fun t h1 h2 h3 => absurd h3 (hf t h1 h2)))
      · have dt := BF_d hB t (by omega)
        rw [t4, if_neg (nI_m1 (by omega))]
        by_cases w : d t ≤ d p
        · rw [if_pos (by rw [e_le (by omega) (by omega)]; exact w)]
          refine ih (q + 1) (r + qmi (κ p)) (nI (d t)) (by omega) (by omega) (by omega) (Or.inr ⟨t, by omega, t2, t3, rfl, fun u h1 h2 h3 => ?_⟩)
          by_cases v : u = p
          · rw [v]; exact w
          · exact t5 u (by omega) h2 h3
        · rw [if_neg (by rw [e_le (by omega) (by omega)]; exact w)]
          exact ih (q + 1) (r + qmi (κ p)) (nI (d p)) (by omega) (by omega) (by omega) (new (fun u h1 h2 h3 => by have := t5 u h1 h2 h3; omega))
    · have qq1 : qui (κ p) = 0 := if_neg c
      have qq2 : qmi (κ p) = 0 := if_neg (fun v => c v.1)
      rw [qq1] at hq ⊢
      rw [qq2] at hr
      rw [if_pos (by decide)]
      refine ih q r few (by omega) hq hr ?_
      rcases hf with ⟨v, hf⟩ | ⟨t, t1, t2, t3, t4, t5⟩
      · refine Or.inl ⟨v, fun t h1 h2 => ?_⟩
        by_cases w : t = p
        · rw [w]; exact c
        · exact hf t (by omega) h2
      · refine Or.inr ⟨t, by omega, t2, t3, t4, fun u h1 h2 h3 => ?_⟩
        by_cases w : u = p
        · rw [w] at h3; exact absurd h3 c
        · exact t5 u (by omega) h2 h3
theorem r_tellsW {N : j_M} {S0 S : a_S} {n ec w : Nat} {κ : Nat → a_S} {d es et : Nat → Nat} (h : YST N S0 n κ d ec es et n 0) (hS : NOD S0 S) (hw : w ≤ 4) : ∃ v M', xX12_tells (nI w) (RS N S) = some (v, M') ∧ (∃ a, WANS S0 a ∧ v = a w) ∧ ∀ x, x ≠ 215 → M' x = RS N S x := by
  obtain ⟨hR, hB, h30, hed, hec, h31, _⟩ := h
  have n250 := hR.1
  have hn := hB.1
  have hG := BF_end hB
  have hGE : GE (RS N S) n ec es et := by
    refine ⟨n250, by omega, by rw [rs_o (by omega)]; exact hR.2.1, by rw [rs_o (by omega)]; exact h30, fun e he => ?_⟩
    have q := hed e he
    have q2 := hB.2.2.2.2.2.2.2.1 (es e) (et e) ⟨e, he, rfl, rfl⟩
    rw [rs_o (by omega), rs_o (by omega)]
    exact ⟨q.1, q.2, q2.1, q2.2.1⟩
  obtain ⟨z, M', e2, f2, hz⟩ := r_goes hGE
  obtain ⟨few, hf, e1⟩ := r_t15 (l1 := nI w) (f := 999999 - n) hR hB hS.2.1.1 n 0 0 (-1) (Nat.le_refl _) (by omega) (by omega) (Or.inl ⟨rfl, fun t h1 h2 => by omega⟩)
  have e0 : xX12_tells (nI w) (RS N S) = xX12_tells_15 (999999 - n + 1) (nI w) (nI (sm (fun s => qui (κ s)) n)) (nI (sm (fun s => qmi (κ s)) n)) few (-1) (RS N S) := by
    have en : nI n - nI 1 = nI n + (-1 : Int32) := by
      rw [e_sub (by omega), show nI n + (-1 : Int32) = nI (n - 1 + 1) + (-1 : Int32) by rw [show n - 1 + 1 = n by omega], nI_prm]
    unfold xX12_tells
    rw [rs_o (by omega), hR.2.1, e_oli2, en, show fu = 999999 - n + n + 1 by unfold fu; omega, e1]
  let a : Nat → Int32 := fun j => if j = 0 then nI n else if j = 1 then nI (sm (fun s => qui (κ s)) n) else if j = 2 then nI (sm (fun s => qmi (κ s)) n) else if j = 3 then few else nI z
  have hA : WANS S0 a := by
    refine Or.inr ⟨n, κ, d, EE ec es et, hG, fun s hs => (hB.2.2.2.2.1 s hs).2.1, n250, fun s hs => (hB.2.2.2.2.1 s hs).2.2, rfl, rfl, rfl, hf, ?_⟩
    rcases hz with ⟨rfl, q⟩ | ⟨rfl, q⟩
    · exact Or.inl ⟨q, rfl⟩
    · exact Or.inr ⟨q, rfl⟩
  have z01 : z = 0 ∨ z = 1 := by
    rcases hz with ⟨q, _⟩ | ⟨q, _⟩
    · exact Or.inr q
    · exact Or.inl q
  have r29 : RS N S 200 29 = nI n := by rw [rs_o (by omega)]; exact hR.2.1
  rw [e0, xX12_tells_15.eq_2, if_pos (by decide), r29, e_oli2, e2, e_obi2]
  have e4 : (if nI z = (0 : Int32) then some (nI 0, M') else some (nI 1, M')) = some (nI z, M') := by
    rcases z01 with rfl | rfl
    · rw [if_pos (by decide)]
    · rw [if_neg (by decide)]
  rw [e4, e_osw, e_osw, e_osw, e_osw, e_osw0]
  have hc : w = 0 ∨ w = 1 ∨ w = 2 ∨ w = 3 ∨ w = 4 := by omega
  rcases hc with rfl | rfl | rfl | rfl | rfl
  · exact ⟨nI n, RS N S, by rw [if_pos rfl], ⟨a, hA, rfl⟩, fun _ _ => rfl⟩
  · exact ⟨nI (sm (fun s => qui (κ s)) n), RS N S, by rw [if_neg (by decide), if_pos rfl], ⟨a, hA, rfl⟩, fun _ _ => rfl⟩
  · exact ⟨nI (sm (fun s => qmi (κ s)) n), RS N S, by rw [if_neg (by decide), if_neg (by decide), if_pos rfl], ⟨a, hA, rfl⟩, fun _ _ => rfl⟩
  · exact ⟨few, RS N S, by rw [if_neg (by decide), if_neg (by decide), if_neg (by decide), if_pos rfl], ⟨a, hA, rfl⟩, fun _ _ => rfl⟩
  · exact ⟨nI z, M', by rw [if_neg (by decide), if_neg (by decide), if_neg (by decide), if_neg (by decide)], ⟨a, hA, rfl⟩, f2⟩
/-! ===== walk ===== -/
/-- what the reference's walk leaves alone -/
def ZFR (M M' : j_M) : Prop := (∀ x, x ≠ 200 → x ≠ 201 → x ≠ 203 → x ≠ 204 → x ≠ 211 → x ≠ 212 → x ≠ 213 → x ≠ 214 → x ≠ 215 → M' x = M x) ∧ (∀ j, j ≠ 29 → j ≠ 30 → j ≠ 31 → M' 200 j = M 200 j)
theorem r_walk {M : j_M} {S : a_S} {b w : Nat} (h1 : M 201 = fl (enc S)) (hi : INV S z0) (h9 : S 6961 0 ≤ b) (hb : b ≤ 2000000000) (hw : w ≤ 4) : ∃ v M' S', xX12_walk (nI w) M = some (v, M') ∧ (∃ a, WANS S a ∧ v = a w) ∧ M' 201 = fl (enc (PT S S')) ∧ ZFR M M' := by
  obtain ⟨N, S', e1, hY, hcase⟩ := r_walk0 h1 hi h9 hb hw
  have fin : ∀ (v : Int32) (Mx : j_M), xX12_walk (nI w) M = xX12_walk_80 v Mx → (∃ a, WANS S a ∧ v = a w) → (∀ x, x ≠ 215 → Mx x = RS N S' x) → ∃ v M' S', xX12_walk (nI w) M = some (v, M') ∧ (∃ a, WANS S a ∧ v = a w) ∧ M' 201 = fl (enc (PT S S')) ∧ ZFR M M' := by
    intro v Mx q1 q2 q3
    refine ⟨v, CP7 Mx 201 203 0, S', ?_, q2, ?_, fun x a1 a2 a3 a4 a5 a6 a7 a8 a9 => ?_, fun j j1 j2 j3 => ?_⟩
    · rw [q1]
      unfold xX12_walk_80
      rw [r_putsBack, e_obv2]
    · funext j
      rw [fl_pt]
      by_cases hj : j < 7460
      · rw [cp7_r hj, if_pos hj, q3 203 (by omega), rs_o (by omega), hY.1 203 (by omega) (by omega) (by omega) (by omega) (by omega) (by omega), cp7_r hj, h1]
      · rw [cp7_n (by omega), if_neg hj, q3 201 (by omega), rs_201]
    · rw [cp7_o a2, q3 x a9, rs_o a2, hY.1 x a1 a4 a5 a6 a7 a8, cp7_o a3]
    · rw [cp7_o (by omega), q3 200 (by omega), rs_o (by omega), hY.2 j j1 j2 j3, cp7_o (by omega)]
  rcases hcase with ⟨hT, h31⟩ | ⟨n, κ, d, ec, es, et, hX, hN⟩
  · refine fin (-1) (RS N S') ?_ ⟨fun _ => -1, Or.inl ⟨hT, fun _ _ => rfl⟩, rfl⟩ (fun _ _ => rfl)
    rw [e1]
    unfold xX12_walk_64
    rw [rs_o (by omega), h31, e_oli2, if_neg (by decide)]
  · obtain ⟨v, Mx, q1, q2, q3⟩ := r_tellsW hX hN hw
    refine fin v Mx ?_ q2 q3
    rw [e1]
    unfold xX12_walk_64
    rw [rs_o (by omega), hX.2.2.2.2.2.1, e_oli2, if_pos (by decide), q1, e_obi2]
/-- what walk leaves alone -/
def VFR (M M' : j_M) : Prop := (∀ x, x ≠ 0 → (x < 70 ∨ (90 ≤ x ∧ x < 100) ∨ 111 ≤ x) → x ≠ 200 → x ≠ 201 → x ≠ 203 → x ≠ 204 → x ≠ 211 → x ≠ 212 → x ≠ 213 → x ≠ 214 → x ≠ 215 → M' x = M x) ∧ (∀ j, j ≠ 3 → j ≠ 4 → M' 0 j = M 0 j) ∧ (∀ j, j ≠ 29 → j ≠ 30 → j ≠ 31 → M' 200 j = M 200 j)
theorem THK_e {M M' : j_M} {b : Nat} (h : THK M b) (h0 : M' 0 3 = M 0 3) (h1 : ∀ x, 70 ≤ x → x < 90 → M' x = M x) : THK M' b := by
  rcases h with h | ⟨h2, D, h3, h4⟩
  · exact Or.inl (by rw [h0]; exact h)
  · exact Or.inr ⟨by rw [h0]; exact h2, D, h3, fun k j k1 k2 c1 c2 => by rw [h1 (70 + k) (by omega) (by omega)]; exact h4 k j k1 k2 c1 c2⟩
theorem WLK_e {M M' : j_M} (h : WLK M) (h0 : M' 0 4 = M 0 4) (h1 : ∀ x, 100 ≤ x → x < 111 → M' x = M x) : WLK M' := by
  rcases h with h | ⟨h2, h3 | ⟨S0, i0, a0, m0⟩⟩
  · exact Or.inl (by rw [h0]; exact h)
  · exact Or.inr ⟨by rw [h0]; exact h2, Or.inl (by rw [h1 100 (by omega) (by omega)]; exact h3)⟩
  · exact Or.inr ⟨by rw [h0]; exact h2, Or.inr ⟨S0, i0, by rw [h1 101 (by omega) (by omega)]; exact a0, WMEM_e m0 (fun j => by rw [h1 100 (by omega) (by omega)]) (h1 102 (by omega) (by omega)) (h1 103 (by omega) (by omega)) (h1 104 (by omega) (by omega))⟩⟩
theorem op_walk {M : j_M} {S : a_S} {b d : Nat} (a : Int32) (hr : REL M S) (ho : OKS S b) (ht : THK M d) (hd : d ≤ 1000000000) (hW : WLK M) : ∃ v M1 M2 S', xX11_walk a M = some (v, M1) ∧ xX12_walk a M1 = some (v, M2) ∧ M1 310 = M 310 ∧ REL M2 S' ∧ OKS S' b ∧ THK M2 (d + 12000) ∧ WLK M2 ∧ VFR M M2 := by
  obtain ⟨r1, r2, r3⟩ := hr
  have hi := ho.1
  have h9 := OKS_9 ho
  have hno : (a < 0 ∨ ∃ c, a = nI c ∧ 4 < c ∧ c < 2147483648) → ∃ v, xX11_walk a M = some (v, M) ∧ xX12_walk a M = some (v, M) := by
    intro hx
    unfold xX11_walk xX12_walk
    rcases hx with hx | ⟨c, rfl, hc, hc2⟩
    · refine ⟨-1, by rw [if_pos hx], ?_⟩
      rw [q_isInN hx (by omega), e_obi2, if_pos (by decide)]
    · refine ⟨-1, ?_, ?_⟩
      · rw [if_neg (by rw [e_lt0 (by omega)]; omega), if_neg (by rw [e_le (by omega) (by omega)]; omega)]
      · rw [m_isIn _ hc2 (by omega) (by omega), if_neg (by omega), e_obi2, if_pos (by decide)]
  by_cases hx : a < 0 ∨ ∃ c, a = nI c ∧ 4 < c ∧ c < 2147483648
  · obtain ⟨v, a1, a2⟩ := hno hx
    exact ⟨v, M, M, S, a1, a2, rfl, ⟨r1, r2, r3⟩, ho, THK_le ht (by omega), hW, fun _ _ _ _ _ _ _ _ _ _ _ _ => rfl, fun _ _ _ => rfl, fun _ _ _ _ => rfl⟩
  · have hw : ∃ w, a = nI w ∧ w ≤ 4 := by
      rcases i_cases a with ⟨c, hc, rfl⟩ | ha
      · by_cases q : c ≤ 4
        · exact ⟨c, rfl, q⟩
        · exact absurd (Or.inr ⟨c, rfl, by omega, hc⟩) hx
      · exact absurd (Or.inl ha) hx
    obtain ⟨w, rfl, hw⟩ := hw
    obtain ⟨v, M1, c1, ⟨S1, a1, w1, p1, v1⟩, c3, c4, c5, c6⟩ := x_walkC r2 hi ht hd hW hw
    have m1 : M1 201 = fl (enc S) := by rw [c5 201 (by omega) (by omega), r1]
    obtain ⟨v', M2, S', k1, ⟨a2, w2, v2⟩, k3, k4, k5⟩ := r_walk (b := 2000000000) m1 hi (by omega) (Nat.le_refl _) hw
    have ev : v' = v := by
      rw [v1, v2]
      exact (WANS_u w1 w2 p1 w (by omega)).symm
    subst ev
    have g : ∀ x, x < 200 → M2 x = M1 x := fun x hx => k4 x (by omega) (by omega) (by omega) (by omega) (by omega) (by omega) (by omega) (by omega) (by omega)
    have g2 : ∀ x, x ≠ 0 → x < 70 → M2 x = M x := fun x h0 hx => by rw [g x (by omega), c5 x h0 (by omega)]
    refine ⟨v', M1, M2, PT S S', c1, k1, c5 310 (by omega) (by omega), ⟨k3, CVS_pt (CVS_e r2 (fun x h1 h2 => g2 x (by omega) (by omega))), SCP_pt (SCP_e r3 (fun x h1 h2 => g2 x (by omega) (by omega)))⟩, OKS_pt ho, THK_e c3 (by rw [g 0 (by omega)]) (fun x h1 h2 => g x (by omega)), WLK_e c4 (by rw [g 0 (by omega)]) (fun x h1 h2 => g x (by omega)), fun x b0 b1 b2 b3 b4 b5 b6 b7 b8 b9 b10 => ?_, fun j j1 j2 => ?_, fun j j1 j2 j3 => ?_⟩
    · rw [k4 x b2 b3 b4 b5 b6 b7 b8 b9 b10, c5 x b0 b1]
    · rw [g 0 (by omega), c6 j j1 j2]
    · rw [k5 j j1 j2 j3, c5 200 (by omega) (by omega)]
