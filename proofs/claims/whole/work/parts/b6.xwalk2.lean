/-! ===== walk: the class ===== -/
def WKF (M M' : j_M) : Prop := (∀ x, x ≠ 0 → (x < 70 ∨ (90 ≤ x ∧ x < 100) ∨ 111 ≤ x) → M' x = M x) ∧ (∀ j, j ≠ 3 → j ≠ 4 → M' 0 j = M 0 j)
theorem KEQ_mrg {S D : a_S} : KEQ (MRG S D) S := by
  have o : ∀ r x, ¬ lgp r x → MRG S D r x = S r x := fun r x h => mrg_o h
  refine ⟨fun r x hr => o r x (by unfold cr at hr; unfold lgp; omega), o 1 0 (by unfold lgp; omega), o 1 1 (by unfold lgp; omega), o 1 2 (by unfold lgp; omega), o 1 7 (by unfold lgp; omega), fun φ hφ => ?_⟩
  exact mq_c (fun i => o 586 i (by unfold lgp; omega)) (o 1 7 (by unfold lgp; omega))
theorem THK_of {M : j_M} {S0 : a_S} {b : Nat} (h : THN M S0 b) (h3 : M 0 3 ≠ 0) : THK M b := by
  obtain ⟨T, q1, q2, q3, q4⟩ := h
  exact Or.inr ⟨h3, T, ⟨q2.1.1, q2.1.2.2.2.2.2.2.2.2.2.2, q3, q4⟩, fun k j _ hk c1 c2 => q1 k j hk c1 c2⟩
theorem x_walk33 {M : j_M} {S : a_S} {d w : Nat} (hV : CVS M 70 S) (hi : INV S z0) (hT : TRC S) (h9 : S 6961 0 ≤ d) (hd : d ≤ 1000000000) (h3 : M 0 3 ≠ 0) (h4 : M 0 4 ≠ 0) (hW : M 100 10 = nI 0 ∨ ∃ S0, INV S0 z0 ∧ WANS S0 (M 101) ∧ WMEM M S0) (hw : w ≤ 4) : ∃ v M', xX11_walk_33 (nI w) M = some (v, M') ∧ (∃ S0 a, WANS S0 a ∧ PEQ S0 S ∧ v = a w) ∧ THK M' (d + 12000) ∧ WLK M' ∧ TWF M M' := by
  obtain ⟨z, S', e1, p1, hz⟩ := x_knows hV hi hW
  have hi' := INV_prm p1 hi
  have fo : ∀ x, (x < 70 ∨ 90 ≤ x) → XS M 70 S' x = M x := fun x hx => xs_o (by omega)
  have V1 : CVS (XS M 70 S') 70 S' := CVS_xs
  have T1 : TRC S' := TRC_c hT (fun i => p1.1 6962 i (by omega))
  have N1 : S' 6961 0 ≤ d := by rw [p1.1 6961 0 (by omega)]; exact h9
  have e58 : ∀ Mx : j_M, Mx 0 4 ≠ 0 → xX11_walk_58 (nI w) Mx = some (Mx 101 w, Mx) := by
    intro Mx h
    unfold xX11_walk_58 gn
    rw [if_neg h, e_gd (by omega) (by omega), e_ix2 (by omega), e_oli2]
  have st : xX11_walk_33 (nI w) M = (if nI z = (0 : Int32) then obv (xX10_explore 70 (XS M 70 S')) fun M3 => xX11_walk_58 (nI w) M3 else xX11_walk_58 (nI w) (XS M 70 S')) := by
    unfold xX11_walk_33 gn
    rw [if_neg h4, if_neg h3, e1, e_obi2, if_neg (show ¬ XS M 70 S' 0 4 = 0 by rw [fo 0 (by omega)]; exact h4), if_neg (show ¬ XS M 70 S' 0 3 = 0 by rw [fo 0 (by omega)]; exact h3)]
  rw [st]
  rcases hz with rfl | ⟨rfl, S0, hA, hp⟩
  · obtain ⟨M', e2, hA, hTN, hM, hF⟩ := x_explore V1 hi' T1 N1 (by omega)
    have h30 : M' 0 3 ≠ 0 := by rw [hF 0 (by omega), fo 0 (by omega)]; exact h3
    have h40 : M' 0 4 ≠ 0 := by rw [hF 0 (by omega), fo 0 (by omega)]; exact h4
    rw [if_pos (by decide), e2, e_obv2, e58 M' h40]
    exact ⟨_, M', rfl, ⟨S', M' 101, hA, PEQ_k (KEQ_prm p1), rfl⟩, THK_of hTN h30, Or.inr ⟨h40, Or.inr ⟨S', hi', hA, hM⟩⟩, fun x hx => by rw [hF x hx, fo x (by omega)]⟩
  · have h40 : XS M 70 S' 0 4 ≠ 0 := by rw [fo 0 (by omega)]; exact h4
    rw [if_neg (by decide), e58 _ h40, fo 101 (by omega)]
    refine ⟨_, _, rfl, ⟨S0, M 101, hA, hp, rfl⟩, THK_of ⟨S', V1, NOD_r hi', T1, by omega⟩ (by rw [fo 0 (by omega)]; exact h3), Or.inr ⟨h40, ?_⟩, fun x hx => fo x (by omega)⟩
    rcases hW with h0 | ⟨S1, i1, w1, w2⟩
    · exact Or.inl (by rw [fo 100 (by omega)]; exact h0)
    · exact Or.inr ⟨S1, i1, by rw [fo 101 (by omega)]; exact w1, WMEM_e w2 (fun j => by rw [fo 100 (by omega)]) (fo 102 (by omega)) (fo 103 (by omega)) (fo 104 (by omega))⟩
theorem x_walkC {M : j_M} {S : a_S} {d w : Nat} (hV : CVS M 2 S) (hi : INV S z0) (ht : THK M d) (hd : d ≤ 1000000000) (hW : WLK M) (hw : w ≤ 4) : ∃ v M', xX11_walk (nI w) M = some (v, M') ∧ (∃ S0 a, WANS S0 a ∧ PEQ S0 S ∧ v = a w) ∧ THK M' (d + 12000) ∧ WLK M' ∧ WKF M M' := by
  obtain ⟨M1, D, p1, ⟨d1, d2, d3, d4⟩, p3, p4, p5, p6⟩ := x_prep hV ht
  have im := mrg_i (S := S) (D := D) hi d1 d2
  have tm := mrg_t (S := S) d3
  have nm : MRG S D 6961 0 ≤ d := by rw [mrg_l (by unfold lgp; omega)]; exact d4
  have st : xX11_walk (nI w) M = (if (if M1 0 4 = 0 then 0 else 15) = 0 then g0 (M1 0 4) (oml (al_walker M1) fun M2 => xX11_walk_33 (nI w) M2) else xX11_walk_33 (nI w) M1) := by
    unfold xX11_walk
    rw [if_neg (by rw [e_lt0 (by omega)]; omega), if_pos (by rw [e_le (by omega) (by omega)]; exact hw), p1, e_obv2]
  rw [st]
  have h04 : M1 0 4 = M 0 4 := p6 4 (by omega)
  by_cases c : M1 0 4 = 0
  · have ao : ∀ x, x ≠ 0 → (x < 100 ∨ 111 ≤ x) → al_walker M1 x = M1 x := fun x hx hx2 => by
      funext j
      unfold al_walker
      rw [if_neg hx, if_neg (by omega)]
    have a04 : al_walker M1 0 4 = 1 := rfl
    have a0 : ∀ j, j ≠ 4 → al_walker M1 0 j = M1 0 j := fun j hj => by
      unfold al_walker
      rw [if_pos rfl, if_neg hj]
    have a10 : al_walker M1 100 10 = nI 0 := rfl
    obtain ⟨v, M', e1, h1, h2, h3, h4⟩ := x_walk33 (M := al_walker M1) (w := w) (CVS_e p3 (fun x _ _ => ao x (by omega) (by omega))) im tm nm hd (by rw [a0 3 (by omega)]; exact p4) (by rw [a04]; decide) (Or.inl a10) hw
    refine ⟨v, M', ?_, ?_, h2, h3, fun x hx hx2 => ?_, fun j j1 j2 => ?_⟩
    · rw [if_pos (by rw [if_pos c])]
      unfold g0
      rw [if_pos c, e_oml2, e1]
    · obtain ⟨S0, a, q1, q2, q3⟩ := h1
      exact ⟨S0, a, q1, PEQ_t q2 (PEQ_k KEQ_mrg), q3⟩
    · rw [h4 x hx2, ao x hx (by omega), p5 x hx (by omega)]
    · rw [h4 0 (by omega), a0 j j2, p6 j j1]
  · have hW' : M1 100 10 = nI 0 ∨ ∃ S0, INV S0 z0 ∧ WANS S0 (M1 101) ∧ WMEM M1 S0 := by
      rcases hW with h0 | ⟨_, h0 | ⟨S1, i1, w1, w2⟩⟩
      · exact absurd (by rw [h04]; exact h0) c
      · exact Or.inl (by rw [p5 100 (by omega) (by omega)]; exact h0)
      · exact Or.inr ⟨S1, i1, by rw [p5 101 (by omega) (by omega)]; exact w1, WMEM_e w2 (fun j => by rw [p5 100 (by omega) (by omega)]) (p5 102 (by omega) (by omega)) (p5 103 (by omega) (by omega)) (p5 104 (by omega) (by omega))⟩
    obtain ⟨v, M', e1, h1, h2, h3, h4⟩ := x_walk33 (M := M1) (w := w) p3 im tm nm hd p4 c hW' hw
    refine ⟨v, M', ?_, ?_, h2, h3, fun x hx hx2 => ?_, fun j j1 j2 => ?_⟩
    · rw [if_neg (by rw [if_neg c]; omega), e1]
    · obtain ⟨S0, a, q1, q2, q3⟩ := h1
      exact ⟨S0, a, q1, PEQ_t q2 (PEQ_k KEQ_mrg), q3⟩
    · rw [h4 x hx2, p5 x hx (by omega)]
    · rw [h4 0 (by omega), p6 j j1]
