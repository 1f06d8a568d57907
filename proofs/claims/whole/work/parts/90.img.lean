theorem b_6 {t u : Nat} {M : j_M} (ht : t ≠ 0) (hd : u + 27 ≤ t ∨ t + 27 ≤ u) : ∃ M', xX6_become t u M = some M' ∧ (∀ k j, k < 20 → cl k ≤ j → j < ch k → M' (t + 1 + k) j = M (u + 1 + k) j) ∧ (∀ k j, k < 6 → (k = 0 → 5 ≤ j) → j < sl k → M' (t + 21 + k) j = M (u + 21 + k) j) ∧ (∀ x, x < t + 1 ∨ t + 27 ≤ x → M' x = M x) := by
  obtain ⟨M1, a1, a2, a3⟩ := b_5 (t := t + 1) (u := u + 1) (M := M) (by omega) (by omega)
  obtain ⟨M2, b1, b2, b3⟩ := b_1 (t := t + 1) (u := u + 1) (M := M1) (by omega) (by omega)
  obtain ⟨M3, c1, c2, c3⟩ := b_9 (t := t + 21) (u := u + 21) (M := M2) (by omega) (by omega)
  refine ⟨M3, ?_, fun k j hk h1 h2 => ?_, fun k j hk h1 h2 => ?_, fun x hx => ?_⟩
  · unfold xX6_become
    rw [show t + 9 = t + 1 + 8 by omega, show u + 9 = u + 1 + 8 by omega, a1, e_obv2, b1, e_obv2, c1, e_obv2]
  · rw [c3 (t + 1 + k) (by omega)]
    by_cases h8 : k < 8
    · rw [b2 k j h8 h1 h2, a3 (u + 1 + k) (by omega)]
    · rw [b3 (t + 1 + k) (by omega), a2 k j (by omega) hk h1 h2]
  · rw [c2 k j hk h1 h2, b3 (u + 21 + k) (by omega), a3 (u + 21 + k) (by omega)]
  · rw [c3 x (by omega), b3 x (by omega), a3 x (by omega)]
theorem SCP_cp {t u : Nat} {M M' : j_M} {K : a_S} (h : SCP M u K) (hp : PR K) (he : ∀ k j, k < 6 → (k = 0 → 5 ≤ j) → j < sl k → M' (t + 21 + k) j = M (u + 21 + k) j) : SCP M' t K := by
  obtain ⟨p1, _, p3, _, _⟩ := hp
  obtain ⟨h1, h2, h3, h4, h5, h6⟩ := h
  have e0 : ∀ j, 5 ≤ j → j < 8 → M' (t + 21) j = M (u + 21) j := fun j hj hj2 => he 0 j (by omega) (fun _ => hj) hj2
  have e1 : ∀ j, j < 1200 → M' (t + 22) j = M (u + 22) j := fun j hj => he 1 j (by omega) (by omega) hj
  have e2 : ∀ j, j < 6 → M' (t + 23) j = M (u + 23) j := fun j hj => he 2 j (by omega) (by omega) hj
  have e3 : ∀ j, j < 6 → M' (t + 24) j = M (u + 24) j := fun j hj => he 3 j (by omega) (by omega) hj
  have e4 : ∀ j, j < 6 → M' (t + 25) j = M (u + 25) j := fun j hj => he 4 j (by omega) (by omega) hj
  have e5 : ∀ j, j < 24 → M' (t + 26) j = M (u + 26) j := fun j hj => he 5 j (by omega) (by omega) hj
  refine ⟨fun c hc => ?_, fun c k hc hk => ?_, ?_, ?_, ?_, fun p hp => ?_⟩
  · rw [e2 c hc, e3 c hc, e4 c hc]
    exact h1 c hc
  · have := p1 c hc
    rw [e1 _ (by omega)]
    exact h2 c k hc hk
  · rw [e0 5 (by omega) (by omega), h3]
  · rw [e0 6 (by omega) (by omega), h4]
  · rw [e0 7 (by omega) (by omega), h5]
  · rw [e5 p (by omega)]
    exact h6 p hp
/-! ===== the reference's row copied ===== -/
def CP7 (M : j_M) (a b k : Nat) : j_M := fun x j => if x = a ∧ k ≤ j ∧ j < 7460 then M b j else M x j
theorem cp7_s {M : j_M} {a b k : Nat} (hab : a ≠ b) (ha : a ≠ 0) (hk : k < 7460) : CP7 (mw M a k (M b k)) a b (k + 1) = CP7 M a b k := by
  funext x j
  unfold CP7
  rw [mw_oth (x := b) (by omega)]
  by_cases hx : x = a
  · subst hx
    by_cases hj : j = k
    · subst hj
      rw [if_neg (by omega), if_pos (by omega), mw_at ha]
    · rw [mw_ne hj]
      by_cases c : k + 1 ≤ j ∧ j < 7460
      · rw [if_pos ⟨rfl, c⟩, if_pos (by omega)]
      · rw [if_neg (by omega), if_neg (by omega)]
  · rw [mw_oth hx, if_neg (by omega), if_neg (by omega)]
theorem cp7_e {M : j_M} {a b : Nat} : CP7 M a b 7460 = M := by
  funext x j
  unfold CP7
  rw [if_neg (by omega)]
theorem cp7_o {M : j_M} {a b k x : Nat} (h : x ≠ a) : CP7 M a b k x = M x := by
  funext j
  unfold CP7
  rw [if_neg (by omega)]
theorem cp7_r {M : j_M} {a b j : Nat} (h : j < 7460) : CP7 M a b 0 a j = M b j := by
  unfold CP7
  rw [if_pos (by omega)]
theorem cp7_n {M : j_M} {a b k j : Nat} (h : 7460 ≤ j) : CP7 M a b k a j = M a j := by
  unfold CP7
  rw [if_neg (by omega)]
theorem r_img0 {n : Nat} : ∀ (m k : Nat) (M : j_M), k + m = 7460 → xX12_image_15 (n + m + 1) 0 (nI k) M = some (nI 1, mw (CP7 M 201 202 k) 200 3 (nI 1))
  | 0, k, M, h => by
    rw [show k = 7460 by omega, xX12_image_15.eq_2, cp7_e]
    simp (disch := omega) only [e_gd, e_ix, e_oli2, e_oml2, e_obi2, e_obv2, e_add, e_mul, e_sub, e_eq, e_lt, e_le, e_eq0, e_0eq, e_lt0, e_0lt, e_le0, e_0le, e_m1, e_m1', e_m1lt, Nat.add_assoc, Nat.not_lt_zero, Nat.le_zero_eq, if_true]
    rw [if_pos (by omega), e_gz1]
  | m + 1, k, M, h => by
    rw [show n + (m + 1) + 1 = (n + m + 1) + 1 by omega, xX12_image_15.eq_2]
    simp (disch := omega) only [e_gd, e_ix, e_oli2, e_oml2, e_obi2, e_obv2, e_add, e_mul, e_sub, e_eq, e_lt, e_le, e_eq0, e_0eq, e_lt0, e_0lt, e_le0, e_0le, e_m1, e_m1', e_m1lt, Nat.add_assoc, Nat.not_lt_zero, Nat.le_zero_eq, if_true]
    rw [if_neg (by omega), show n + (m + 1) = n + m + 1 from rfl, r_img0 m (k + 1) _ (by omega), cp7_s (by omega) (by omega) (by omega)]
theorem r_img1 {n : Nat} {a : Int32} (ha : a ≠ 0) : ∀ (m k : Nat) (M : j_M), k + m = 7460 → xX12_image_15 (n + m + 1) a (nI k) M = some (nI 1, mw (CP7 M 202 201 k) 200 3 (nI 1))
  | 0, k, M, h => by
    rw [show k = 7460 by omega, xX12_image_15.eq_2, cp7_e]
    simp (disch := omega) only [e_gd, e_ix, e_oli2, e_oml2, e_obi2, e_obv2, e_add, e_mul, e_sub, e_eq, e_lt, e_le, e_eq0, e_0eq, e_lt0, e_0lt, e_le0, e_0le, e_m1, e_m1', e_m1lt, Nat.add_assoc, Nat.not_lt_zero, Nat.le_zero_eq, if_true]
    rw [if_pos (by omega), e_gz1]
  | m + 1, k, M, h => by
    rw [show n + (m + 1) + 1 = (n + m + 1) + 1 by omega, xX12_image_15.eq_2, if_neg ha]
    simp (disch := omega) only [e_gd, e_ix, e_oli2, e_oml2, e_obi2, e_obv2, e_add, e_mul, e_sub, e_eq, e_lt, e_le, e_eq0, e_0eq, e_lt0, e_0lt, e_le0, e_0le, e_m1, e_m1', e_m1lt, Nat.add_assoc, Nat.not_lt_zero, Nat.le_zero_eq, if_true]
    rw [if_neg (by omega), show n + (m + 1) = n + m + 1 from rfl, r_img1 ha m (k + 1) _ (by omega), cp7_s (by omega) (by omega) (by omega)]
/-! ===== the places that lie in no region ===== -/
def PT (K S : a_S) : a_S := fun r i => if r = 9000 then S r i else K r i
theorem pt_o {K S : a_S} {r i : Nat} (h : r ≠ 9000) : PT K S r i = K r i := by
  unfold PT
  rw [if_neg h]
theorem ifne {p : Prop} [Decidable p] {a b c : Nat} (h1 : a ≠ c) (h2 : ¬ p → b ≠ c) : (if p then a else b) ≠ c := by
  by_cases h : p
  · rw [if_pos h]; exact h1
  · rw [if_neg h]; exact h2 h
theorem rg_lo {j : Nat} (h : j < 7460) : rgW j ≠ 9000 := by
  unfold rgW
  iterate 34 refine ifne (by omega) (fun _ => ?_)
  refine ifne (by omega) (fun _ => by omega)
theorem rg_hi {j : Nat} (h : 7460 ≤ j) : rgW j = 9000 := by
  unfold rgW
  iterate 35 rw [if_neg (by omega)]
theorem fl_pt {K S : a_S} {j : Nat} : fl (enc (PT K S)) j = if j < 7460 then fl (enc K) j else fl (enc S) j := by
  unfold fl enc PT
  by_cases h : j < 7460
  · rw [if_pos h]
    have := rg_lo h
    simp only [if_neg this]
  · rw [if_neg h]
    have := rg_hi (j := j) (by omega)
    simp only [if_pos this]
theorem OKS_pt {K S : a_S} {b : Nat} (h : OKS K b) : OKS (PT K S) b := by
  obtain ⟨h1, h2, h3, h4, h5, h6⟩ := h
  refine ⟨INV_log h1 (fun r i => ?_) (fun r i hr => pt_o (by omega)) (fun i _ _ _ => pt_o (by omega)), ?_, TRC_c h3 (fun i => pt_o (by omega)), ?_, ?_, h6⟩
  · by_cases c : r = 9000
    · unfold rg
      omega
    · rw [pt_o c]
      exact h1.1 r i
  · unfold PR at h2 ⊢
    simp only [fun i => pt_o (K := K) (S := S) (r := 3112) (i := i) (by omega), fun i => pt_o (K := K) (S := S) (r := 3118) (i := i) (by omega), fun i => pt_o (K := K) (S := S) (r := 3124) (i := i) (by omega), fun i => pt_o (K := K) (S := S) (r := 3130) (i := i) (by omega), fun i => pt_o (K := K) (S := S) (r := 7362) (i := i) (by omega), fun i => pt_o (K := K) (S := S) (r := 7363) (i := i) (by omega), fun i => pt_o (K := K) (S := S) (r := 7364) (i := i) (by omega)]
    exact h2
  · rw [pt_o (by omega)]; exact h4
  · rw [pt_o (by omega), pt_o (by omega)]; exact h5
theorem SCP_pt {M : j_M} {tm : Nat} {K S : a_S} (h : SCP M tm K) : SCP M tm (PT K S) := by
  unfold SCP at h ⊢
  simp only [fun i => pt_o (K := K) (S := S) (r := 3112) (i := i) (by omega), fun i => pt_o (K := K) (S := S) (r := 3118) (i := i) (by omega), fun i => pt_o (K := K) (S := S) (r := 3124) (i := i) (by omega), fun i => pt_o (K := K) (S := S) (r := 3130) (i := i) (by omega), fun i => pt_o (K := K) (S := S) (r := 7362) (i := i) (by omega), fun i => pt_o (K := K) (S := S) (r := 7363) (i := i) (by omega), fun i => pt_o (K := K) (S := S) (r := 7364) (i := i) (by omega), fun i => pt_o (K := K) (S := S) (r := 1) (i := i) (by omega)]
  exact h
theorem CVS_pt {M : j_M} {t : Nat} {K S : a_S} (h : CVS M t K) : CVS M t (PT K S) := by
  intro k j hk h1 h2
  rw [h k j hk h1 h2]
  refine (cv_c hk (fun r i hc => pt_o ?_)).symm
  unfold cu cu1 at hc
  omega
/-! ===== image ===== -/
def KEP (M : j_M) (K : a_S) : Prop := CVS M 41 K ∧ SCP M 40 K ∧ ∀ j, j < 7460 → M 202 j = fl (enc K) j
def KPT (M : j_M) (b : Nat) : Prop := (M 0 2 = 0 ∧ M 200 3 = 0) ∨ (M 0 2 ≠ 0 ∧ M 200 3 ≠ 0 ∧ ∃ K, OKS K b ∧ KEP M K)
def IFR (M M' : j_M) : Prop := (∀ x, (28 ≤ x ∧ x < 40) ∨ (67 ≤ x ∧ x ≠ 200 ∧ x ≠ 201 ∧ x ≠ 202) → M' x = M x) ∧ (∀ j, j ≠ 2 → M' 0 j = M 0 j) ∧ (∀ j, j ≠ 3 → M' 200 j = M 200 j)
theorem IFR_r {M : j_M} : IFR M M := ⟨fun _ _ => rfl, fun _ _ => rfl, fun _ _ => rfl⟩
theorem r_image0 {M : j_M} (h : M 200 3 ≠ 0) : xX12_image 0 M = some (nI 1, mw (CP7 M 201 202 0) 200 3 (nI 1)) := by
  unfold xX12_image xX12_image_13
  rw [if_pos rfl, e_oli2, if_neg h, show fu = 992539 + 7460 + 1 by unfold fu; omega]
  exact r_img0 7460 0 M (by omega)
theorem r_image1 {M : j_M} {a : Int32} (h : a ≠ 0) : xX12_image a M = some (nI 1, mw (CP7 M 202 201 0) 200 3 (nI 1)) := by
  unfold xX12_image xX12_image_13
  rw [if_neg h, show fu = 992539 + 7460 + 1 by unfold fu; omega]
  exact r_img1 h 7460 0 M (by omega)
/-- taking the image, behind the class's making of room -/
theorem i_take {M Mk : j_M} {S : a_S} {b : Nat} (a : Int32) (ha : a ≠ 0) (hr : REL M S) (ho : OKS S b) (h0 : Mk 0 2 ≠ 0) (h1 : ∀ x, 1 ≤ x → (x < 40 ∨ 67 ≤ x) → Mk x = M x) (h2 : ∀ j, j ≠ 2 → Mk 0 j = M 0 j) : ∃ M1 M2, xX11_image_22 Mk = some (nI 1, M1) ∧ xX12_image a M1 = some (nI 1, M2) ∧ REL M2 S ∧ KPT M2 b ∧ IFR M M1 ∧ IFR M M2 := by
  obtain ⟨M1, a1, a2, a3, a4⟩ := b_6 (t := 40) (u := 1) (M := Mk) (by omega) (by omega)
  obtain ⟨r1, r2, r3⟩ := hr
  have eo : ∀ x, x ≠ 200 → x ≠ 202 → mw (CP7 M1 202 201 0) 200 3 (nI 1) x = M1 x := fun x hx hx2 => by rw [mw_oth hx, cp7_o hx2]
  have e1 : ∀ x, 1 ≤ x → (x < 40 ∨ 67 ≤ x) → M1 x = M x := fun x hx hx2 => by rw [a4 x (by omega), h1 x hx hx2]
  have e0 : M1 0 = Mk 0 := a4 0 (by omega)
  have f1 : IFR M M1 := ⟨fun x hx => e1 x (by omega) (by omega), fun j hj => by rw [e0, h2 j hj], fun j _ => by rw [e1 200 (by omega) (by omega)]⟩
  have s1 : SCP Mk 1 S := SCP_e r3 (fun x _ _ => h1 x (by omega) (by omega))
  refine ⟨M1, _, ?_, r_image1 ha, ⟨?_, ?_, ?_⟩, Or.inr ⟨?_, ?_, S, ho, ?_, ?_, ?_⟩, f1, fun x hx => ?_, fun j hj => ?_, fun j hj => ?_⟩
  · unfold xX11_image_22 gn
    rw [if_neg h0, a1, e_obv2]
  · rw [eo 201 (by omega) (by omega), e1 201 (by omega) (by omega), r1]
  · exact CVS_e r2 (fun x _ _ => by rw [eo x (by omega) (by omega), e1 x (by omega) (by omega)])
  · exact SCP_e r3 (fun x _ _ => by rw [eo x (by omega) (by omega), e1 x (by omega) (by omega)])
  · rw [eo 0 (by omega) (by omega), e0]; exact h0
  · rw [mw_at (by omega)]; decide
  · intro k j hk c1 c2
    rw [eo (41 + k) (by omega) (by omega), show 41 + k = 40 + 1 + k by omega, a2 k j hk c1 c2, show 1 + 1 + k = 2 + k by omega, h1 (2 + k) (by omega) (by omega)]
    exact r2 k j hk c1 c2
  · exact SCP_e (SCP_cp s1 ho.2.1 a3) (fun x _ _ => eo x (by omega) (by omega))
  · intro j hj
    rw [mw_oth (by omega), cp7_r hj, e1 201 (by omega) (by omega), r1]
  · rw [eo x (by omega) (by omega), e1 x (by omega) (by omega)]
  · rw [eo 0 (by omega) (by omega), f1.2.1 j hj]
  · rw [mw_ne hj, cp7_o (by omega), e1 200 (by omega) (by omega)]
theorem op_image {M : j_M} {S : a_S} {b : Nat} (a : Int32) (hr : REL M S) (ho : OKS S b) (hk : KPT M b) : ∃ v M1 M2 S', xX11_image a M = some (v, M1) ∧ xX12_image a M1 = some (v, M2) ∧ REL M2 S' ∧ OKS S' b ∧ KPT M2 b ∧ IFR M M1 ∧ IFR M M2 := by
  by_cases ha : a = 0
  · subst ha
    rcases hk with ⟨k1, k2⟩ | ⟨k1, k2, K, ok, kv, ks, k3⟩
    · refine ⟨nI 0, M, M, S, ?_, ?_, hr, ho, Or.inl ⟨k1, k2⟩, IFR_r, IFR_r⟩
      · unfold xX11_image
        simp only [k1, if_true]
      · unfold xX12_image
        rw [if_pos rfl, e_oli2, if_pos k2]
    · obtain ⟨M1, a1, a2, a3, a4⟩ := b_6 (t := 1) (u := 40) (M := M) (by omega) (by omega)
      obtain ⟨r1, r2, r3⟩ := hr
      have eo : ∀ x, x ≠ 200 → x ≠ 201 → mw (CP7 M1 201 202 0) 200 3 (nI 1) x = M1 x := fun x hx hx2 => by rw [mw_oth hx, cp7_o hx2]
      have e1 : ∀ x, (x < 2 ∨ 28 ≤ x) → M1 x = M x := fun x hx => a4 x (by omega)
      have f1 : IFR M M1 := ⟨fun x hx => e1 x (by omega), fun j hj => by rw [e1 0 (by omega)], fun j _ => by rw [e1 200 (by omega)]⟩
      have c1 : CVS M1 2 K := by
        intro k j hk c1 c2
        rw [show 2 + k = 1 + 1 + k by omega, a2 k j hk c1 c2]
        exact kv k j hk c1 c2
      refine ⟨nI 1, M1, _, PT K S, ?_, r_image0 (by rw [e1 200 (by omega)]; exact k2), ⟨?_, ?_, ?_⟩, OKS_pt ok, Or.inr ⟨?_, ?_, K, ok, ?_, ?_, ?_⟩, f1, fun x hx => ?_, fun j hj => ?_, fun j hj => ?_⟩
      · unfold xX11_image gn
        rw [if_pos rfl, if_neg k1, if_neg k1, if_neg (by omega), a1, e_obv2]
      · funext j
        rw [mw_oth (by omega), fl_pt]
        by_cases hj : j < 7460
        · rw [cp7_r hj, if_pos hj, e1 202 (by omega), k3 j hj]
        · rw [cp7_n (by omega), if_neg hj, e1 201 (by omega), r1]
      · exact CVS_pt (CVS_e c1 (fun x _ _ => eo x (by omega) (by omega)))
      · exact SCP_pt (SCP_e (SCP_cp ks ok.2.1 a3) (fun x _ _ => eo x (by omega) (by omega)))
      · rw [eo 0 (by omega) (by omega), e1 0 (by omega)]; exact k1
      · rw [mw_at (by omega)]; decide
      · exact CVS_e kv (fun x _ _ => by rw [eo x (by omega) (by omega), e1 x (by omega)])
      · exact SCP_e ks (fun x _ _ => by rw [eo x (by omega) (by omega), e1 x (by omega)])
      · intro j hj
        rw [eo 202 (by omega) (by omega), e1 202 (by omega), k3 j hj]
      · rw [eo x (by omega) (by omega), e1 x (by omega)]
      · rw [eo 0 (by omega) (by omega), e1 0 (by omega)]
      · rw [mw_ne hj, cp7_o (by omega), e1 200 (by omega)]
  · by_cases k : M 0 2 = 0
    · obtain ⟨M1, M2, h1, h2, h3, h4, h5, h6⟩ := i_take (Mk := al_kept M) a ha hr ho (by show (1 : Int32) ≠ 0; decide) (fun x hx hx2 => by funext j; unfold al_kept; rw [if_neg (by omega), if_neg (by omega)]) (fun j hj => by unfold al_kept; rw [if_pos rfl, if_neg hj])
      refine ⟨nI 1, M1, M2, S, ?_, h2, h3, ho, h4, h5, h6⟩
      unfold xX11_image g0
      rw [if_neg ha, if_pos k, if_pos k, if_pos rfl, e_oml2, h1]
    · obtain ⟨M1, M2, h1, h2, h3, h4, h5, h6⟩ := i_take (Mk := M) a ha hr ho k (fun _ _ _ => rfl) (fun _ _ => rfl)
      refine ⟨nI 1, M1, M2, S, ?_, h2, h3, ho, h4, h5, h6⟩
      unfold xX11_image
      rw [if_neg ha, if_neg k, if_neg (by omega), h1]
