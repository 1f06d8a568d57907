/-! ===== the law's loop ===== -/
theorem RDR_e {M M' : j_M} (h : RDR M) (h1 : M' 28 4 = M 28 4) (h2 : M' 200 11 = M 200 11) (h3 : M' 29 = M 29) (h4 : M' 205 = M 205) : RDR M' := by
  unfold RDR at h ⊢
  rw [h1, h2, h3, h4]
  exact h
theorem FLT_e {M M' : j_M} (h : FLT M) (h1 : M' 28 5 = M 28 5) (h2 : M' 28 6 = M 28 6) (h3 : M' 200 19 = M 200 19) (h4 : M' 200 22 = M 200 22) : FLT M' := by
  unfold FLT at h ⊢
  rw [h1, h2, h3, h4]
  exact h
theorem KPT_e {M M' : j_M} {b : Nat} (h : KPT M b) (h1 : M' 0 2 = M 0 2) (h2 : M' 200 3 = M 200 3) (h3 : ∀ x, 40 ≤ x → x < 67 → M' x = M x) (h4 : M' 202 = M 202) : KPT M' b := by
  rcases h with ⟨a, c⟩ | ⟨a, c, K, k1, k2, k3, k4⟩
  · exact Or.inl ⟨by rw [h1]; exact a, by rw [h2]; exact c⟩
  · exact Or.inr ⟨by rw [h1]; exact a, by rw [h2]; exact c, K, k1, CVS_e k2 (fun x p q => h3 x (by omega) (by omega)), SCP_e k3 (fun x p q => h3 x (by omega) (by omega)), fun j hj => by rw [h4]; exact k4 j hj⟩
theorem KPT_le {M : j_M} {b b' : Nat} (h : KPT M b) (h1 : b ≤ b') (h2 : b' ≤ 3000000) : KPT M b' := by
  rcases h with h | ⟨a, c, K, k1, k2⟩
  · exact Or.inl h
  · exact Or.inr ⟨a, c, K, OKS_le k1 h1 h2, k2⟩
/-- what holds ahead of every call -/
def LW (M : j_M) (b d : Nat) : Prop := ∃ S, REL M S ∧ OKS S b ∧ RDR M ∧ FLT M ∧ CST M ∧ KPT M b ∧ THK M d ∧ WLK M
def CALL (F G : j_M → Option (Int32 × j_M)) (M : j_M) (b d : Nat) : Prop := ∃ v M1 M2, F M = some (v, M1) ∧ G M1 = some (v, M2) ∧ M1 310 = M 310 ∧ M2 310 = M 310 ∧ LW M2 b d
theorem call_opn {F G : j_M → Option (Int32 × j_M)} {M : j_M} {b d : Nat} (h : LW M b d) (hb : b + 5000 ≤ 3000000) (ho : ∀ S, OKS S b → ∃ b', b' ≤ b + 5000 ∧ OPN F G S b') : CALL F G M (b + 5000) (d + 250000) := by
  obtain ⟨S, r, o, hR, hF, hC, hK, hT, hW⟩ := h
  obtain ⟨b', hb', hop⟩ := ho S o
  obtain ⟨v, M1, M2, S', e1, e2, r2, o2, f1, f2⟩ := op_step hop r
  refine ⟨v, M1, M2, e1, e2, f1 310 (by omega), f2 310 (by omega), S', r2, OKS_le o2 hb' hb, RDR_e hR ?_ ?_ ?_ ?_, FLT_e hF ?_ ?_ ?_ ?_, CST_f hC (fun x hx => f2 x (by omega)), KPT_le (KPT_e hK ?_ ?_ (fun x p q => f2 x (by omega)) (f2 202 (by omega))) (by omega) hb, THK_le (THK_e hT ?_ (fun x p q => f2 x (by omega))) (by omega), WLK_e hW ?_ (fun x p q => f2 x (by omega))⟩
  all_goals first | rw [f2 28 (by omega)] | rw [f2 200 (by omega)] | rw [f2 0 (by omega)] | exact f2 29 (by omega) | exact f2 205 (by omega)
theorem call_rd {F G : j_M → Option (Int32 × j_M)} {M : j_M} {b d : Nat} (h : LW M b d) (hb : b + 5000 ≤ 3000000) (ho : RDR M → ∃ v M1 M2, F M = some (v, M1) ∧ G M1 = some (v, M2) ∧ RDR M2 ∧ TFR M M1 ∧ TFR M M2) : CALL F G M (b + 5000) (d + 250000) := by
  obtain ⟨S, ⟨r1, r2, r3⟩, o, hR, hF, hC, hK, hT, hW⟩ := h
  obtain ⟨v, M1, M2, e1, e2, R2, f1, f2, g2, g3⟩ := ho hR
  have fx : ∀ x, x ≠ 28 → x ≠ 29 → x ≠ 200 → x ≠ 205 → M2 x = M x := f2
  refine ⟨v, M1, M2, e1, e2, f1.1 310 (by omega) (by omega) (by omega) (by omega), fx 310 (by omega) (by omega) (by omega) (by omega), S, ⟨by rw [fx 201 (by omega) (by omega) (by omega) (by omega)]; exact r1, CVS_e r2 (fun x p q => fx x (by omega) (by omega) (by omega) (by omega)), SCP_e r3 (fun x p q => fx x (by omega) (by omega) (by omega) (by omega))⟩, OKS_le o (by omega) hb, R2, FLT_e hF (g2 5 (by omega)) (g2 6 (by omega)) (g3 19 (by omega)) (g3 22 (by omega)), CST_f hC (fun x hx => fx x (by omega) (by omega) (by omega) (by omega)), KPT_le (KPT_e hK ?_ (g3 3 (by omega)) (fun x p q => fx x (by omega) (by omega) (by omega) (by omega)) (fx 202 (by omega) (by omega) (by omega) (by omega))) (by omega) hb, THK_le (THK_e hT ?_ (fun x p q => fx x (by omega) (by omega) (by omega) (by omega))) (by omega), WLK_e hW ?_ (fun x p q => fx x (by omega) (by omega) (by omega) (by omega))⟩
  all_goals rw [fx 0 (by omega) (by omega) (by omega) (by omega)]
theorem LW_le {M : j_M} {b d b' d' : Nat} (h : LW M b d) (h1 : b ≤ b') (h2 : b' ≤ 3000000) (h3 : d ≤ d') : LW M b' d' := by
  obtain ⟨S, r, o, hR, hF, hC, hK, hT, hW⟩ := h
  exact ⟨S, r, OKS_le o h1 h2, hR, hF, hC, KPT_le hK h1 h2, THK_le hT h3, hW⟩
theorem call_fault {M : j_M} {b d : Nat} (a : Int32) (h : LW M b d) (hb : b + 5000 ≤ 3000000) : CALL (xX11_fault a) (xX12_fault a) M (b + 5000) (d + 250000) := by
  have h' := h
  obtain ⟨S, r, o, hR, hF, hC, hK, hT, hW⟩ := h'
  obtain ⟨v, e1, e2⟩ := op_fault a hF
  exact ⟨v, M, M, e1, e2, rfl, rfl, LW_le h (by omega) hb (by omega)⟩
theorem call_text {M : j_M} {b d : Nat} (a : Int32) (h : LW M b d) (hb : b + 5000 ≤ 3000000) : CALL (xX11_text a) (xX12_text a) M (b + 5000) (d + 250000) := by
  obtain ⟨S, r, o, hR, hF, hC, hK, hT, hW⟩ := h
  obtain ⟨v, M1, M2, S', e1, e2, p1, r2, o2, R2, F2, f2, g2⟩ := op_textB a hR hC r o
  refine ⟨v, M1, M2, e1, e2, p1, f2 310 (by omega), S', r2, OKS_le o2 (by omega) hb, R2, F2, CST_f hC (fun x hx => f2 x (by omega)), KPT_le (KPT_e hK ?_ (g2 3 (by omega)) (fun x p q => f2 x (by omega)) (f2 202 (by omega))) (by omega) hb, THK_le (THK_e hT ?_ (fun x p q => f2 x (by omega))) (by omega), WLK_e hW ?_ (fun x p q => f2 x (by omega))⟩
  all_goals rw [f2 0 (by omega)]
theorem call_image {M : j_M} {b d : Nat} (a : Int32) (h : LW M b d) (hb : b + 5000 ≤ 3000000) : CALL (xX11_image a) (xX12_image a) M (b + 5000) (d + 250000) := by
  obtain ⟨S, r, o, hR, hF, hC, hK, hT, hW⟩ := h
  obtain ⟨v, M1, M2, S', e1, e2, r2, o2, K2, f1, f2, g2, g3⟩ := op_image a r o hK
  refine ⟨v, M1, M2, e1, e2, f1.1 310 (by omega), f2 310 (by omega), S', r2, OKS_le o2 (by omega) hb, RDR_e hR ?_ (g3 11 (by omega)) (f2 29 (by omega)) (f2 205 (by omega)), FLT_e hF ?_ ?_ (g3 19 (by omega)) (g3 22 (by omega)), CST_f hC (fun x hx => f2 x (by omega)), KPT_le K2 (by omega) hb, THK_le (THK_e hT (g2 3 (by omega)) (fun x p q => f2 x (by omega))) (by omega), WLK_e hW (g2 4 (by omega)) (fun x p q => f2 x (by omega))⟩
  all_goals rw [f2 28 (by omega)]
theorem call_soon {M : j_M} {b d : Nat} (a : Int32) (h : LW M b d) (hb : b + 5000 ≤ 3000000) (hd : d ≤ 1000000000) : CALL (xX11_soon a) (xX12_soon a) M (b + 5000) (d + 250000) := by
  obtain ⟨S, r, o, hR, hF, hC, hK, hT, hW⟩ := h
  obtain ⟨v, M1, M2, S', e1, e2, p1, r2, o2, T2, f2, g2⟩ := op_soonB a r o hT hd
  have fx : ∀ x, x ≠ 0 → x ≠ 201 → x ≠ 203 → x ≠ 204 → (x < 70 ∨ 90 ≤ x) → M2 x = M x := f2
  refine ⟨v, M1, M2, e1, e2, p1, fx 310 (by omega) (by omega) (by omega) (by omega) (by omega), S', r2, OKS_le o2 (by omega) hb, RDR_e hR ?_ ?_ (fx 29 (by omega) (by omega) (by omega) (by omega) (by omega)) (fx 205 (by omega) (by omega) (by omega) (by omega) (by omega)), FLT_e hF ?_ ?_ ?_ ?_, CST_f hC (fun x hx => fx x (by omega) (by omega) (by omega) (by omega) (by omega)), KPT_le (KPT_e hK (g2 2 (by omega)) ?_ (fun x p q => fx x (by omega) (by omega) (by omega) (by omega) (by omega)) (fx 202 (by omega) (by omega) (by omega) (by omega) (by omega))) (by omega) hb, T2, WLK_e hW (g2 4 (by omega)) (fun x p q => fx x (by omega) (by omega) (by omega) (by omega) (by omega))⟩
  all_goals first | rw [fx 28 (by omega) (by omega) (by omega) (by omega) (by omega)] | rw [fx 200 (by omega) (by omega) (by omega) (by omega) (by omega)]
theorem call_walk {M : j_M} {b d : Nat} (a : Int32) (h : LW M b d) (hb : b + 5000 ≤ 3000000) (hd : d ≤ 1000000000) : CALL (xX11_walk a) (xX12_walk a) M (b + 5000) (d + 250000) := by
  obtain ⟨S, r, o, hR, hF, hC, hK, hT, hW⟩ := h
  obtain ⟨v, M1, M2, S', e1, e2, p1, r2, o2, T2, W2, f2, g2, g3⟩ := op_walk a r o hT hd hW
  have fx : ∀ x, x ≠ 0 → (x < 70 ∨ (90 ≤ x ∧ x < 100) ∨ 111 ≤ x) → ((x ≠ 200 ∧ x ≠ 201 ∧ x ≠ 203 ∧ x ≠ 204) ∧ (x ≠ 211 ∧ x ≠ 212 ∧ x ≠ 213 ∧ x ≠ 214 ∧ x ≠ 215)) → M2 x = M x := fun x h0 h1 h2 => f2 x h0 h1 h2.1.1 h2.1.2.1 h2.1.2.2.1 h2.1.2.2.2 h2.2.1 h2.2.2.1 h2.2.2.2.1 h2.2.2.2.2.1 h2.2.2.2.2.2
  refine ⟨v, M1, M2, e1, e2, p1, fx 310 (by omega) (by omega) (by omega), S', r2, OKS_le o2 (by omega) hb, RDR_e hR ?_ (g3 11 (by omega) (by omega) (by omega)) (fx 29 (by omega) (by omega) (by omega)) (fx 205 (by omega) (by omega) (by omega)), FLT_e hF ?_ ?_ (g3 19 (by omega) (by omega) (by omega)) (g3 22 (by omega) (by omega) (by omega)), CST_f hC (fun x hx => fx x (by omega) (by omega) (by omega)), KPT_le (KPT_e hK (g2 2 (by omega) (by omega)) (g3 3 (by omega) (by omega) (by omega)) (fun x p q => fx x (by omega) (by omega) (by omega)) (fx 202 (by omega) (by omega) (by omega))) (by omega) hb, THK_le T2 (by omega), W2⟩
  all_goals rw [fx 28 (by omega) (by omega) (by omega)]
/-- the law goes on to its end, and says 1 -/
def OK1 (o : Option (Int32 × j_M)) : Prop := ∃ M3, o = some (nI 1, M3)
theorem osw_c {x c : Int32} {A D : Option (Int32 × j_M)} {l : List (Int32 × Option (Int32 × j_M))} (h1 : OK1 A) (h2 : OK1 (osw x l D)) : OK1 (osw x ((c, A) :: l) D) := by
  rw [e_osw]
  by_cases q : x = c
  · rw [if_pos q]; exact h1
  · rw [if_neg q]; exact h2
theorem osw_n {x : Int32} {D : Option (Int32 × j_M)} (h : OK1 D) : OK1 (osw x [] D) := by
  rw [e_osw0]; exact h
theorem br1 {F G : Int32 → j_M → Option (Int32 × j_M)} {K : j_M → Option (Int32 × j_M)} {M : j_M} {L k b d : Nat} (hk : k + 6 ≤ L) (hL : L ≤ 3072) (h : CALL (F (M 310 (k + 1))) (G (M 310 (k + 1))) M b d) (hK : ∀ M2, LW M2 b d → OK1 (K M2)) : OK1 (gd (nI k + nI 1) L (oli (M 310 (ix (nI k + nI 1))) fun u1 => obi (F u1 M) fun v4 M3 => gd (nI k + nI 1) L (oli (M3 310 (ix (nI k + nI 1))) fun w1 => obi (G w1 M3) fun v7 M6 => (if v4 = v7 then K M6 else some (nI 0, M6))))) := by
  obtain ⟨v, M1, M2, e1, e2, p1, p2, h2⟩ := h
  simp (disch := omega) only [e_add, e_gd, e_ix2, e_oli2, e1, e_obi2, p1, e2, if_true]
  exact hK M2 h2
theorem br2 {F G : Int32 → Int32 → j_M → Option (Int32 × j_M)} {K : j_M → Option (Int32 × j_M)} {M : j_M} {L k b d : Nat} (hk : k + 6 ≤ L) (hL : L ≤ 3072) (h : CALL (F (M 310 (k + 1)) (M 310 (k + 2))) (G (M 310 (k + 1)) (M 310 (k + 2))) M b d) (hK : ∀ M2, LW M2 b d → OK1 (K M2)) : OK1 (gd (nI k + nI 1) L (oli (M 310 (ix (nI k + nI 1))) fun u1 => gd (nI k + nI 2) L (oli (M 310 (ix (nI k + nI 2))) fun u2 => obi (F u1 u2 M) fun v4 M3 => gd (nI k + nI 1) L (oli (M3 310 (ix (nI k + nI 1))) fun w1 => gd (nI k + nI 2) L (oli (M3 310 (ix (nI k + nI 2))) fun w2 => obi (G w1 w2 M3) fun v7 M6 => (if v4 = v7 then K M6 else some (nI 0, M6))))))) := by
  obtain ⟨v, M1, M2, e1, e2, p1, p2, h2⟩ := h
  simp (disch := omega) only [e_add, e_gd, e_ix2, e_oli2, e1, e_obi2, p1, e2, if_true]
  exact hK M2 h2
theorem br3 {F G : Int32 → Int32 → Int32 → j_M → Option (Int32 × j_M)} {K : j_M → Option (Int32 × j_M)} {M : j_M} {L k b d : Nat} (hk : k + 6 ≤ L) (hL : L ≤ 3072) (h : CALL (F (M 310 (k + 1)) (M 310 (k + 2)) (M 310 (k + 3))) (G (M 310 (k + 1)) (M 310 (k + 2)) (M 310 (k + 3))) M b d) (hK : ∀ M2, LW M2 b d → OK1 (K M2)) : OK1 (gd (nI k + nI 1) L (oli (M 310 (ix (nI k + nI 1))) fun u1 => gd (nI k + nI 2) L (oli (M 310 (ix (nI k + nI 2))) fun u2 => gd (nI k + nI 3) L (oli (M 310 (ix (nI k + nI 3))) fun u3 => obi (F u1 u2 u3 M) fun v4 M3 => gd (nI k + nI 1) L (oli (M3 310 (ix (nI k + nI 1))) fun w1 => gd (nI k + nI 2) L (oli (M3 310 (ix (nI k + nI 2))) fun w2 => gd (nI k + nI 3) L (oli (M3 310 (ix (nI k + nI 3))) fun w3 => obi (G w1 w2 w3 M3) fun v7 M6 => (if v4 = v7 then K M6 else some (nI 0, M6))))))))) := by
  obtain ⟨v, M1, M2, e1, e2, p1, p2, h2⟩ := h
  simp (disch := omega) only [e_add, e_gd, e_ix2, e_oli2, e1, e_obi2, p1, e2, if_true]
  exact hK M2 h2
theorem br5 {F G : Int32 → Int32 → Int32 → Int32 → Int32 → j_M → Option (Int32 × j_M)} {K : j_M → Option (Int32 × j_M)} {M : j_M} {L k b d : Nat} (hk : k + 6 ≤ L) (hL : L ≤ 3072) (h : CALL (F (M 310 (k + 1)) (M 310 (k + 2)) (M 310 (k + 3)) (M 310 (k + 4)) (M 310 (k + 5))) (G (M 310 (k + 1)) (M 310 (k + 2)) (M 310 (k + 3)) (M 310 (k + 4)) (M 310 (k + 5))) M b d) (hK : ∀ M2, LW M2 b d → OK1 (K M2)) : OK1 (gd (nI k + nI 1) L (oli (M 310 (ix (nI k + nI 1))) fun u1 => gd (nI k + nI 2) L (oli (M 310 (ix (nI k + nI 2))) fun u2 => gd (nI k + nI 3) L (oli (M 310 (ix (nI k + nI 3))) fun u3 => gd (nI k + nI 4) L (oli (M 310 (ix (nI k + nI 4))) fun u4 => gd (nI k + nI 5) L (oli (M 310 (ix (nI k + nI 5))) fun u5 => obi (F u1 u2 u3 u4 u5 M) fun v4 M3 => gd (nI k + nI 1) L (oli (M3 310 (ix (nI k + nI 1))) fun w1 => gd (nI k + nI 2) L (oli (M3 310 (ix (nI k + nI 2))) fun w2 => gd (nI k + nI 3) L (oli (M3 310 (ix (nI k + nI 3))) fun w3 => gd (nI k + nI 4) L (oli (M3 310 (ix (nI k + nI 4))) fun w4 => gd (nI k + nI 5) L (oli (M3 310 (ix (nI k + nI 5))) fun w5 => obi (G w1 w2 w3 w4 w5 M3) fun v7 M6 => (if v4 = v7 then K M6 else some (nI 0, M6))))))))))))) := by
  obtain ⟨v, M1, M2, e1, e2, p1, p2, h2⟩ := h
  simp (disch := omega) only [e_add, e_gd, e_ix2, e_oli2, e1, e_obi2, p1, e2, if_true]
  exact hK M2 h2
theorem lawc {L k : Nat} (hL : L ≤ 3072) (hk : k ≤ 4000) : ((Int32.ofNat L) - (nI 6)) < nI k ↔ L < k + 6 := by
  rw [show Int32.ofNat L = nI L from rfl]
  by_cases c : 6 ≤ L
  · rw [e_sub c, e_lt (by omega) (by omega)]
    omega
  · have hc : L = 0 ∨ L = 1 ∨ L = 2 ∨ L = 3 ∨ L = 4 ∨ L = 5 := by omega
    have hn : nI L - nI 6 < 0 := by
      rcases hc with rfl | rfl | rfl | rfl | rfl | rfl <;> decide
    rw [neg_lt hn (by omega)]
    exact ⟨fun _ => by omega, fun _ => trivial⟩
theorem brI {K : Int32 → j_M → Option (Int32 × j_M)} {M : j_M} {L k b d : Nat} (hk : k + 6 ≤ L) (hL : L ≤ 3072) (h : ∀ a, CALL (xX11_image a) (xX12_image a) M b d) (hK : ∀ M2, LW M2 b d → OK1 (K (nI k + nI 6) M2)) : OK1 (gd (nI k + nI 1) L (oli (M 310 (ix (nI k + nI 1))) fun v236 => (if v236 = (0 : Int32) then xL_law_1150 K L (nI k) (nI 0) M else xL_law_1150 K L (nI k) (nI 1) M))) := by
  have key : ∀ a, OK1 (obi (xX11_image a M) fun v2 M1 => obi (xX12_image a M1) fun v3 M2 => (if v2 = v3 then K (nI k + nI 6) M2 else some ((nI 0), M2))) := by
    intro a
    obtain ⟨v, M1, M2, e1, e2, p1, p2, h2⟩ := h a
    rw [e1, e_obi2, e2, e_obi2, if_pos rfl]
    exact hK M2 h2
  have p : ∀ a v M1, xX11_image a M = some (v, M1) → M1 310 = M 310 := by
    intro a v M1 e
    obtain ⟨v', M1', M2, e1, e2, p1, p2, h2⟩ := h a
    rw [e1] at e
    have : M1' = M1 := congrArg Prod.snd (Option.some.inj e)
    rw [← this]
    exact p1
  rw [e_add, e_gd (by omega) (by omega), e_ix2 (by omega), e_oli2]
  have go : ∀ a, (∀ (v : Int32) (M1 : j_M), (if M 310 (k + 1) = (0 : Int32) then xL_law_1167 K L (nI k) v (nI 0) M1 else xL_law_1167 K L (nI k) v (nI 1) M1) = xL_law_1167 K L (nI k) v a M1) → OK1 (xL_law_1150 K L (nI k) a M) := by
    intro a ha
    have ka := key a
    obtain ⟨v, M1, M2, e1, e2, p1, p2, h2⟩ := h a
    unfold xL_law_1150
    rw [e1, e_obi2] at ka ⊢
    rw [e_add, e_gd (by omega) (by omega), e_ix2 (by omega), p1, e_oli2, ha]
    unfold xL_law_1167
    exact ka
  by_cases c : M 310 (k + 1) = 0
  · rw [if_pos c]
    exact go (nI 0) (fun v M1 => by rw [if_pos c])
  · rw [if_neg c]
    exact go (nI 1) (fun v M1 => by rw [if_neg c])
set_option maxRecDepth 20000 in
theorem law_loop {L f : Nat} (hL : L ≤ 3072) : ∀ (m k : Nat) (M : j_M) (b d : Nat), L ≤ k + 6 * m + 5 → k ≤ 3078 → b + 5000 * m ≤ 3000000 → d + 250000 * m ≤ 1000000000 → LW M b d → OK1 (xL_law_18 L (f + m + 1) (nI k) M) := by
  intro m
  induction m with
  | zero =>
    intro k M b d h1 h2 h3 h4 h
    refine ⟨M, ?_⟩
    rw [xL_law_18.eq_2, if_pos ((lawc hL (by omega)).2 (by omega))]
  | succ m ih =>
    intro k M b d h1 h2 h3 h4 h
    rw [show f + (m + 1) + 1 = (f + m + 1) + 1 by omega, xL_law_18.eq_2]
    by_cases c : L < k + 6
    · rw [if_pos ((lawc hL (by omega)).2 c)]
      exact ⟨M, rfl⟩
    · have hk : k + 6 ≤ L := by omega
      have hb : b + 5000 ≤ 3000000 := by omega
      have hd : d ≤ 1000000000 := by omega
      have hK : ∀ M2, LW M2 (b + 5000) (d + 250000) → OK1 (xL_law_18 L (f + m + 1) (nI k + nI 6) M2) := fun M2 hh => by
        rw [e_add]
        exact ih (k + 6) M2 (b + 5000) (d + 250000) (by omega) (by omega) (by omega) (by omega) hh
      rw [if_neg (fun q => c ((lawc hL (by omega)).1 q)), e_gd (by omega) (by omega), e_ix2 (by omega), e_oli2]
      refine osw_c (br1 (F := xX11_state) (G := xX12_state) (K := fun M2 => xL_law_18 L (f + m + 1) (nI k + nI 6) M2) hk hL (call_opn h hb (fun S ho => ⟨b + 100, by omega, op_state _ ho (by omega)⟩)) hK) ?_
      refine osw_c (br2 (F := xX11_set) (G := xX12_set) (K := fun M2 => xL_law_18 L (f + m + 1) (nI k + nI 6) M2) hk hL (call_opn h hb (fun S ho => ⟨b + 100, by omega, op_set _ _ ho (by omega)⟩)) hK) ?_
      refine osw_c (br2 (F := xX11_load) (G := xX12_load) (K := fun M2 => xL_law_18 L (f + m + 1) (nI k + nI 6) M2) hk hL (call_opn h hb (fun S ho => ⟨b + 100, by omega, op_load _ _ ho (by omega)⟩)) hK) ?_
      refine osw_c (br3 (F := xX11_store) (G := xX12_store) (K := fun M2 => xL_law_18 L (f + m + 1) (nI k + nI 6) M2) hk hL (call_opn h hb (fun S ho => ⟨b + 100, by omega, op_store _ _ _ ho (by omega)⟩)) hK) ?_
      refine osw_c (br3 (F := xX11_add) (G := xX12_add) (K := fun M2 => xL_law_18 L (f + m + 1) (nI k + nI 6) M2) hk hL (call_opn h hb (fun S ho => ⟨b + 100, by omega, op_add _ _ _ ho (by omega)⟩)) hK) ?_
      refine osw_c (br2 (F := xX11_evict) (G := xX12_evict) (K := fun M2 => xL_law_18 L (f + m + 1) (nI k + nI 6) M2) hk hL (call_opn h hb (fun S ho => ⟨b + 100, by omega, op_evict _ _ ho (by omega)⟩)) hK) ?_
      refine osw_c (br1 (F := xX11_deliver) (G := xX12_deliver) (K := fun M2 => xL_law_18 L (f + m + 1) (nI k + nI 6) M2) hk hL (call_opn h hb (fun S ho => ⟨b + 100, by omega, op_deliver _ ho (by omega)⟩)) hK) ?_
      refine osw_c (br1 (F := xX11_tick) (G := xX12_tick) (K := fun M2 => xL_law_18 L (f + m + 1) (nI k + nI 6) M2) hk hL (call_opn h hb (fun S ho => ⟨b + 100, by omega, op_tick _ ho (by omega)⟩)) hK) ?_
      refine osw_c (br1 (F := xX11_calm) (G := xX12_calm) (K := fun M2 => xL_law_18 L (f + m + 1) (nI k + nI 6) M2) hk hL (call_opn h hb (fun S ho => ⟨b + 100, by omega, op_calm _ ho (by omega)⟩)) hK) ?_
      refine osw_c (br5 (F := xX11_feed) (G := xX12_feed) (K := fun M2 => xL_law_18 L (f + m + 1) (nI k + nI 6) M2) hk hL (call_rd h hb (fun hR => op_feed _ _ _ _ _ hR)) hK) ?_
      refine osw_c (br1 (F := xX11_end) (G := xX12_end) (K := fun M2 => xL_law_18 L (f + m + 1) (nI k + nI 6) M2) hk hL (call_rd h hb (fun hR => op_end _ hR)) hK) ?_
      refine osw_c (br1 (F := xX11_text) (G := xX12_text) (K := fun M2 => xL_law_18 L (f + m + 1) (nI k + nI 6) M2) hk hL (call_text _ h hb) hK) ?_
      refine osw_c (br1 (F := xX11_run) (G := xX12_run) (K := fun M2 => xL_law_18 L (f + m + 1) (nI k + nI 6) M2) hk hL (call_opn h hb (fun S ho => ⟨b + 5000, by omega, op_run _ ho (by omega)⟩)) hK) ?_
      refine osw_c (br1 (F := xX11_fault) (G := xX12_fault) (K := fun M2 => xL_law_18 L (f + m + 1) (nI k + nI 6) M2) hk hL (call_fault _ h hb) hK) ?_
      refine osw_c (br2 (F := xX11_go) (G := xX12_go) (K := fun M2 => xL_law_18 L (f + m + 1) (nI k + nI 6) M2) hk hL (call_opn h hb (fun S ho => ⟨b + 100, by omega, op_go _ _ ho (by omega)⟩)) hK) ?_
      refine osw_c (br3 (F := xX11_node) (G := xX12_node) (K := fun M2 => xL_law_18 L (f + m + 1) (nI k + nI 6) M2) hk hL (call_opn h hb (fun S ho => ⟨b, by omega, op_node _ _ _ ho⟩)) hK) ?_
      refine osw_c (br2 (F := xX11_miss) (G := xX12_miss) (K := fun M2 => xL_law_18 L (f + m + 1) (nI k + nI 6) M2) hk hL (call_opn h hb (fun S ho => ⟨b, by omega, op_miss _ _ ho⟩)) hK) ?_
      refine osw_c (br3 (F := xX11_table) (G := xX12_table) (K := fun M2 => xL_law_18 L (f + m + 1) (nI k + nI 6) M2) hk hL (call_opn h hb (fun S ho => ⟨b, by omega, op_table _ _ _ ho⟩)) hK) ?_
      refine osw_c (br2 (F := xX11_message) (G := xX12_message) (K := fun M2 => xL_law_18 L (f + m + 1) (nI k + nI 6) M2) hk hL (call_opn h hb (fun S ho => ⟨b, by omega, op_message _ _ ho⟩)) hK) ?_
      refine osw_c (br2 (F := xX11_seen) (G := xX12_seen) (K := fun M2 => xL_law_18 L (f + m + 1) (nI k + nI 6) M2) hk hL (call_opn h hb (fun S ho => ⟨b, by omega, op_seen _ _ ho⟩)) hK) ?_
      refine osw_c (br2 (F := xX11_program) (G := xX12_program) (K := fun M2 => xL_law_18 L (f + m + 1) (nI k + nI 6) M2) hk hL (call_opn h hb (fun S ho => ⟨b, by omega, op_program _ _ ho⟩)) hK) ?_
      refine osw_c (br1 (F := xX11_soon) (G := xX12_soon) (K := fun M2 => xL_law_18 L (f + m + 1) (nI k + nI 6) M2) hk hL (call_soon _ h hb hd) hK) ?_
      refine osw_c (br1 (F := xX11_walk) (G := xX12_walk) (K := fun M2 => xL_law_18 L (f + m + 1) (nI k + nI 6) M2) hk hL (call_walk _ h hb hd) hK) ?_
      refine osw_c (br2 (F := xX11_where) (G := xX12_where) (K := fun M2 => xL_law_18 L (f + m + 1) (nI k + nI 6) M2) hk hL (call_opn h hb (fun S ho => ⟨b, by omega, op_where _ _ ho⟩)) hK) ?_
      refine osw_c (br2 (F := xX11_cost) (G := xX12_cost) (K := fun M2 => xL_law_18 L (f + m + 1) (nI k + nI 6) M2) hk hL (call_opn h hb (fun S ho => ⟨b, by omega, op_cost _ _ ho⟩)) hK) ?_
      refine osw_c (br2 (F := xX11_group) (G := xX12_group) (K := fun M2 => xL_law_18 L (f + m + 1) (nI k + nI 6) M2) hk hL (call_opn h hb (fun S ho => ⟨b, by omega, op_group _ _ ho⟩)) hK) ?_
      refine osw_c (br2 (F := xX11_trace) (G := xX12_trace) (K := fun M2 => xL_law_18 L (f + m + 1) (nI k + nI 6) M2) hk hL (call_opn h hb (fun S ho => ⟨b, by omega, op_trace _ _ ho⟩)) hK) ?_
      refine osw_c (br3 (F := xX11_flow) (G := xX12_flow) (K := fun M2 => xL_law_18 L (f + m + 1) (nI k + nI 6) M2) hk hL (call_opn h hb (fun S ho => ⟨b, by omega, op_flow _ _ _ ho⟩)) hK) ?_
      refine osw_c (br2 (F := xX11_can) (G := xX12_can_) (K := fun M2 => xL_law_18 L (f + m + 1) (nI k + nI 6) M2) hk hL (call_opn h hb (fun S ho => ⟨b, by omega, op_can _ _ ho⟩)) hK) ?_
      refine osw_c (br1 (F := xX11_worth) (G := xX12_worth) (K := fun M2 => xL_law_18 L (f + m + 1) (nI k + nI 6) M2) hk hL (call_opn h hb (fun S ho => ⟨b, by omega, op_worth _ ho⟩)) hK) ?_
      refine osw_c (brI (K := xL_law_18 L (f + m + 1)) hk hL (fun a => call_image a h hb) hK) ?_
      refine osw_c (br1 (F := xX11_look) (G := xX12_look) (K := fun M2 => xL_law_18 L (f + m + 1) (nI k + nI 6) M2) hk hL (call_opn h hb (fun S ho => ⟨b, by omega, op_look _ ho⟩)) hK) ?_
      exact osw_n (hK M (LW_le h (by omega) hb (by omega)))
