/-! ===== what is alike but for the log stays so, over a calm round ===== -/
def lgp (r i : Nat) : Prop := r = 6961 ∨ r = 6962 ∨ r = 6814 ∨ r = 2752 ∨ r = 2746 ∨ r = 6736 ∨ (r = 1 ∧ 8 ≤ i ∧ i ≤ 13)
def ps (r i : Nat) : Prop := ¬ lgp r i
theorem CP_ps : CP ps := by
  refine ⟨fun r i h => ?_, ?_, ?_, ?_, ?_, fun r i j h1 h => ?_, fun h => ?_, fun h => ?_, fun h => ?_⟩
  · unfold cor at h; unfold ps lgp; omega
  · unfold ps lgp; omega
  · unfold ps lgp; omega
  · unfold ps lgp; omega
  · unfold ps lgp; omega
  · unfold ps lgp at h ⊢; omega
  · unfold ps lgp at h; omega
  · unfold ps lgp at h; omega
  · unfold ps lgp at h; omega
theorem ps_e {S S' : a_S} (h : ag ps S S') (r i : Nat) (hr : ¬ (r = 6961 ∨ r = 6962 ∨ r = 6814 ∨ r = 2752 ∨ r = 2746 ∨ r = 6736 ∨ r = 1)) : S r i = S' r i := h r i (by unfold ps lgp; omega)
theorem ps_1 {S S' : a_S} (h : ag ps S S') (i : Nat) (hi : i < 8) : S 1 i = S' 1 i := h 1 i (by unfold ps lgp; omega)
theorem ag_one {S S' : a_S} {c t : Nat} (h : ag ps S S') : ag ps (a_one S c t) (a_one S' c t) := by
  have e5 : ∀ i, S 586 i = S' 586 i := fun i => ps_e h 586 i (by omega)
  have ea : a_asking S = a_asking S' := by
    unfold a_asking
    simp only [e5, ps_1 h 7 (by omega)]
  unfold a_one
  rw [ea, ps_e h 298 c (by omega), ps_e h 292 c (by omega)]
  split
  · exact ag_sw h (fun hp => absurd hp (by unfold ps lgp; omega))
  · exact ag_send CP_ps h rfl
theorem ag_askT {B : Nat → Nat} {c : Nat} : ∀ (m k : Nat) (S S' : a_S), ag ps S S' → ag ps (a_askT B c m k S) (a_askT B c m k S')
  | 0, _, _, _, h => h
  | m + 1, k, S, S', h => by
    unfold a_askT
    split
    · exact ag_askT m (k + 1) _ _ (ag_one h)
    · exact ag_askT m (k + 1) _ _ h
theorem ag_asks {S S' : a_S} {c l : Nat} (h : ag ps S S') : ag ps (a_asks S c l) (a_asks S' c l) := by
  have e : a_tg S c l = a_tg S' c l := by
    funext k
    unfold a_tg
    rw [ps_1 h 0 (by omega), ps_1 h 3 (by omega), ps_e h 526 _ (by omega), ps_e h 538 _ (by omega), ps_e h 6766 _ (by omega)]
  unfold a_asks
  rw [e]
  exact ag_one (ag_askT 6 0 _ _ h)
theorem ag_afg {S S' : a_S} {c l : Nat} (h : ag ps S S') : ag ps (a_afg S c l) (a_afg S' c l) := by
  unfold a_afg a_afg3 a_afg2 a_afg1
  rw [ps_e h 298 c (by omega), ps_e h 316 _ (by omega)]
  refine ag_settles CP_ps (ag_sw (ag_sw (ag_sw (ag_tells CP_ps 7 0 _ _ (ag_notes CP_ps (ag_sw (ag_sw (ag_sw (ag_sw (ag_sw h (fun _ => rfl)) (fun _ => rfl)) (fun _ => rfl)) (fun _ => rfl)) (fun _ => rfl)))) (fun _ => rfl)) (fun hp => ?_)) (fun hp => ?_))
  · exact absurd hp (by unfold ps lgp; omega)
  · exact absurd hp (by unfold ps lgp; omega)
theorem ag_ticksOf {S S' : a_S} {c : Nat} (h : ag ps S S') : ag ps (a_ticksOf S c) (a_ticksOf S' c) := by
  have e5 : ∀ i, S 586 i = S' 586 i := fun i => ps_e h 586 i (by omega)
  have e4 : ∀ i, S 484 i = S' 484 i := fun i => ps_e h 484 i (by omega)
  have e3 : ∀ i, S 358 i = S' 358 i := fun i => ps_e h 358 i (by omega)
  have e2 : ∀ i, S 400 i = S' 400 i := fun i => ps_e h 400 i (by omega)
  have em : a_msg4 S c = a_msg4 S' c := by
    unfold a_msg4
    simp only [e5, ps_1 h 7 (by omega)]
  have ek : ∀ l, a_mrk S c l = a_mrk S' c l := by
    intro l
    unfold a_mrk
    simp only [e4, e3, e2, ps_1 h 0 (by omega)]
  unfold a_ticksOf
  rw [em, ek, ps_e h 292 c (by omega), ps_e h 310 c (by omega), ps_1 h 5 (by omega), ps_1 h 4 (by omega), ps_e h 532 c (by omega), ps_e h 526 c (by omega)]
  split
  · exact h
  · split
    · unfold a_tk1 a_tk0
      rw [ps_e h 526 c (by omega), ps_1 h 5 (by omega)]
      exact ag_asks (ag_notes CP_ps (ag_sw (ag_sw h (fun _ => rfl)) (fun _ => rfl)))
    · exact ag_afg h
theorem ag_tickL : ∀ (m c : Nat) (S S' : a_S), ag ps S S' → ag ps (a_tickL m c S) (a_tickL m c S')
  | 0, _, _, _, h => h
  | m + 1, c, S, S', h => ag_tickL m (c + 1) _ _ (ag_ticksOf h)
theorem ag_tick {S S' : a_S} (h : ag ps S S') : ag ps (a_tick S) (a_tick S') := by
  unfold a_tick a_tick0
  rw [ps_1 h 0 (by omega), ps_1 h 5 (by omega)]
  have h1 : ag ps (sw S 1 5 (S' 1 5 + 1)) (sw S' 1 5 (S' 1 5 + 1)) := ag_sw h (fun _ => rfl)
  refine ag_tickL _ 0 _ _ ?_
  split
  · intro r i hp
    unfold a_grp
    split
    · rfl
    · exact h1 r i hp
  · exact h1
theorem ag_cD : ∀ (m : Nat) (S S' : a_S), ag ps S S' → ag ps (a_cD m S) (a_cD m S')
  | 0, _, _, h => h
  | m + 1, S, S', h => by
    rw [cD_s, cD_s, ps_1 h 7 (by omega)]
    split
    · exact h
    · exact ag_cD m _ _ (ag_del CP_ps h)
theorem ag_calm1 {S S' : a_S} (h : ag ps S S') : ag ps (a_calm1 S) (a_calm1 S') := ag_tick (ag_cD 2000 _ _ h)
/-! ===== the thought ===== -/
def CVL (M : j_M) (t : Nat) (D : a_S) : Prop := ∀ k j, 8 ≤ k → k < 20 → cl k ≤ j → j < ch k → M (t + k) j = cv D k j
def LGD (D : a_S) (b : Nat) : Prop := RG D ∧ SU D ∧ TRC D ∧ D 6961 0 ≤ b
def THK (M : j_M) (b : Nat) : Prop := M 0 3 = 0 ∨ (M 0 3 ≠ 0 ∧ ∃ D, LGD D b ∧ CVL M 70 D)
def MRG (S D : a_S) : a_S := fun r i => if r = 6961 ∨ r = 6962 ∨ r = 6814 ∨ r = 2752 ∨ r = 2746 ∨ r = 6736 ∨ (r = 1 ∧ 8 ≤ i ∧ i ≤ 13) then D r i else S r i
theorem mrg_l {S D : a_S} {r i : Nat} (h : lgp r i) : MRG S D r i = D r i := if_pos h
theorem mrg_o {S D : a_S} {r i : Nat} (h : ¬ lgp r i) : MRG S D r i = S r i := if_neg h
theorem mrg_ag {S D : a_S} : ag ps (MRG S D) S := fun _ _ h => mrg_o h
theorem mrg_i {S D : a_S} {h : Nat → Nat} (hi : INV S h) (hr : RG D) (hs : SU D) : INV (MRG S D) h := by
  obtain ⟨i1, i2, i3, i4, i5, i6, i7, i8, i9, i10, i11⟩ := hi
  have e : ∀ r, ¬ (r = 6961 ∨ r = 6962 ∨ r = 6814 ∨ r = 2752 ∨ r = 2746 ∨ r = 6736 ∨ r = 1) → ∀ i, MRG S D r i = S r i := fun r h i => mrg_o (by unfold lgp; omega)
  have e1 : ∀ i, i < 8 → MRG S D 1 i = S 1 i := fun i hi => mrg_o (by unfold lgp; omega)
  refine ⟨fun r i => ?_, UD_c i2 (e 238 (by omega)) (e 244 (by omega)), UM_c i3 (e 238 (by omega)) (e 244 (by omega)) (e 14 (by omega)), VM_c i4 (e 586 (by omega)) (e1 7 (by omega)) (e1 0 (by omega)), TK_c i5 (e 586 (by omega)) (e1 7 (by omega)) (e 14 (by omega)) (e1 1 (by omega)), KC_c i6 (e 586 (by omega)) (e1 7 (by omega)) (e 310 (by omega)), SC_c i7 (fun i hi => e1 i (by omega)), MS_c i8 (e 292 (by omega)) (e 298 (by omega)) (e 304 (by omega)) (e 310 (by omega)) (e1 0 (by omega)), HG_c i9 (e 538 (by omega)) (e 6766 (by omega)), TI_c i10 (e 532 (by omega)) (e 6730 (by omega)) (fun c _ => e 316 (by omega) _) (e1 5 (by omega)), SU_c hs (fun i => mrg_l (by unfold lgp; omega)) (mrg_l (by unfold lgp; omega)) (mrg_l (by unfold lgp; omega)) (mrg_l (by unfold lgp; omega))⟩
  by_cases c : lgp r i
  · rw [mrg_l c]; exact hr r i
  · rw [mrg_o c]; exact i1 r i
theorem mrg_t {S D : a_S} (h : TRC D) : TRC (MRG S D) := TRC_c h (fun i => mrg_l (by unfold lgp; omega))
theorem mrg_v {M M' : j_M} {S D : a_S} (h : CVS M 2 S) (hl : CVL M 70 D) (h1 : ∀ k j, k < 8 → cl k ≤ j → j < ch k → M' (70 + k) j = M (2 + k) j) (h2 : ∀ x, x < 70 ∨ 70 + 8 ≤ x → M' x = M x) : CVS M' 70 (MRG S D) := by
  intro k j hk c1 c2
  by_cases c : k < 8
  · rw [h1 k j c c1 c2, h k j hk c1 c2]
    refine (cv_c hk (fun r i hc => mrg_o ?_)).symm
    have hc0 : k = 0 → 8 ≤ j ∧ j < 15 := fun q => by subst q; exact ⟨c1, c2⟩
    unfold cu cu1 at hc
    unfold lgp
    omega
  · rw [h2 (70 + k) (by omega), hl k j (by omega) hk c1 c2]
    refine (cv_c hk (fun r i hc => mrg_l ?_)).symm
    unfold cu cu1 at hc
    unfold lgp
    omega
/-- the thought is made, or there: a copy of what is so -/
theorem x_prep {M : j_M} {S : a_S} {b : Nat} (hr : CVS M 2 S) (ht : THK M b) : ∃ M' D, xX11_prepareThought M = some M' ∧ LGD D b ∧ CVS M' 70 (MRG S D) ∧ M' 0 3 ≠ 0 ∧ (∀ x, x ≠ 0 → x < 70 ∨ 90 ≤ x → M' x = M x) ∧ (∀ j, j ≠ 3 → M' 0 j = M 0 j) := by
  rcases ht with h0 | ⟨h0, D, hD, hL⟩
  · obtain ⟨M1, e1, a1, a2⟩ := b_1 (t := 70) (u := 2) (M := al_thought M) (by omega) (by omega)
    have ao : ∀ x, x ≠ 0 → x < 70 ∨ 90 ≤ x → al_thought M x = M x := fun x hx hx2 => by
      funext j
      unfold al_thought
      rw [if_neg hx, if_neg (by omega)]
    have a03 : al_thought M 0 3 = 1 := rfl
    refine ⟨M1, fun _ _ => 0, ?_, ⟨fun r i => by show rg r i 0; unfold rg; omega, ⟨rfl, rfl, rfl⟩, fun j _ => ⟨Nat.zero_le _, by show 0 < 8; decide, by show 0 < 8; decide, by show 0 < 8; decide⟩, Nat.zero_le _⟩, mrg_v (M := al_thought M) (CVS_e hr (fun x h1 h2 => ao x (by omega) (by omega))) ?_ a1 a2, ?_, fun x hx hx2 => ?_, fun j hj => ?_⟩
    · unfold xX11_prepareThought xX11_prepareThought_25 g0 gn
      rw [if_pos h0, if_pos rfl, if_pos h0, e_oml2, a03, if_neg (by decide), e1, e_obv2]
    · intro k j h8 hk c1 c2
      have e : al_thought M (70 + k) j = 0 := by
        unfold al_thought ini_c
        rw [if_neg (by omega), if_pos (by omega), if_neg (by omega), if_neg (by omega), if_neg (by omega)]
      rw [e]
      unfold cv tv
      rw [if_neg (by omega), if_neg (by omega), if_neg (by omega), if_neg (by omega), if_neg (by omega), if_neg (by omega), if_neg (by omega), if_neg (by omega)]
      (repeat' split) <;> rfl
    · rw [a2 0 (by omega), a03]; decide
    · rw [a2 x (by omega), ao x hx (by omega)]
    · rw [a2 0 (by omega)]
      unfold al_thought
      rw [if_pos rfl, if_neg hj]
  · obtain ⟨M1, e1, a1, a2⟩ := b_1 (t := 70) (u := 2) (M := M) (by omega) (by omega)
    refine ⟨M1, D, ?_, hD, mrg_v hr hL a1 a2, ?_, fun x hx hx2 => a2 x (by omega), fun j hj => by rw [a2 0 (by omega)]⟩
    · unfold xX11_prepareThought xX11_prepareThought_25 gn
      rw [if_neg h0, if_neg (by omega), if_neg h0, e1, e_obv2]
    · rw [a2 0 (by omega)]; exact h0
theorem r_keep {n : Nat} : ∀ (m k : Nat) (M : j_M), k + m = 7460 → xX12_keeps_2 (n + m + 1) (nI k) M = some (CP7 M 203 201 k)
  | 0, k, M, h => by
    rw [show k = 7460 by omega, xX12_keeps_2.eq_2, cp7_e]
    simp (disch := omega) only [e_gd, e_ix, e_oli2, e_oml2, e_obi2, e_obv2, e_add, e_mul, e_sub, e_eq, e_lt, e_le, e_eq0, e_0eq, e_lt0, e_0lt, e_le0, e_0le, e_m1, e_m1', e_m1lt, Nat.add_assoc, Nat.not_lt_zero, Nat.le_zero_eq, if_true]
    rw [if_pos (by omega)]
  | m + 1, k, M, h => by
    rw [show n + (m + 1) + 1 = (n + m + 1) + 1 by omega, xX12_keeps_2.eq_2]
    simp (disch := omega) only [e_gd, e_ix, e_oli2, e_oml2, e_obi2, e_obv2, e_add, e_mul, e_sub, e_eq, e_lt, e_le, e_eq0, e_0eq, e_lt0, e_0lt, e_le0, e_0le, e_m1, e_m1', e_m1lt, Nat.add_assoc, Nat.not_lt_zero, Nat.le_zero_eq, if_true]
    rw [if_neg (by omega), show n + (m + 1) = n + m + 1 from rfl, r_keep m (k + 1) _ (by omega), cp7_s (by omega) (by omega) (by omega)]
theorem r_keeps {M : j_M} : xX12_keeps M = some (CP7 M 203 201 0) := by
  unfold xX12_keeps
  rw [show fu = 992539 + 7460 + 1 by unfold fu; omega]
  exact r_keep 7460 0 M (by omega)
theorem r_puts {n : Nat} : ∀ (m k : Nat) (M : j_M), k + m = 7460 → xX12_putsBack_2 (n + m + 1) (nI k) M = some (CP7 M 201 203 k)
  | 0, k, M, h => by
    rw [show k = 7460 by omega, xX12_putsBack_2.eq_2, cp7_e]
    simp (disch := omega) only [e_gd, e_ix, e_oli2, e_oml2, e_obi2, e_obv2, e_add, e_mul, e_sub, e_eq, e_lt, e_le, e_eq0, e_0eq, e_lt0, e_0lt, e_le0, e_0le, e_m1, e_m1', e_m1lt, Nat.add_assoc, Nat.not_lt_zero, Nat.le_zero_eq, if_true]
    rw [if_pos (by omega)]
  | m + 1, k, M, h => by
    rw [show n + (m + 1) + 1 = (n + m + 1) + 1 by omega, xX12_putsBack_2.eq_2]
    simp (disch := omega) only [e_gd, e_ix, e_oli2, e_oml2, e_obi2, e_obv2, e_add, e_mul, e_sub, e_eq, e_lt, e_le, e_eq0, e_0eq, e_lt0, e_0lt, e_le0, e_0le, e_m1, e_m1', e_m1lt, Nat.add_assoc, Nat.not_lt_zero, Nat.le_zero_eq, if_true]
    rw [if_neg (by omega), show n + (m + 1) = n + m + 1 from rfl, r_puts m (k + 1) _ (by omega), cp7_s (by omega) (by omega) (by omega)]
theorem r_putsBack {M : j_M} : xX12_putsBack M = some (CP7 M 201 203 0) := by
  unfold xX12_putsBack
  rw [show fu = 992539 + 7460 + 1 by unfold fu; omega]
  exact r_puts 7460 0 M (by omega)
