/-! ===== an end, a coming keep what always holds ===== -/
theorem INV_log' {S S' : a_S} {h : Nat → Nat} (hi : INV S h) (hr : RG S') (hd : ∀ r i, r = 14 ∨ r = 238 ∨ r = 244 ∨ r = 586 ∨ r = 292 ∨ r = 298 ∨ r = 304 ∨ r = 310 ∨ r = 538 ∨ r = 6766 ∨ r = 532 ∨ r = 6730 ∨ r = 6736 → S' r i = S r i) (h3 : ∀ c, c < 6 → S' 316 (6 * c + c) = S 316 (6 * c + c)) (h1 : ∀ i, i < 12 → i ≠ 6 → i ≠ 8 → S' 1 i = S 1 i) : INV S' h := by
  obtain ⟨_, i2, i3, i4, i5, i6, i7, i8, i9, i10, i11⟩ := hi
  refine ⟨hr, UD_c i2 (fun i => hd 238 i (by omega)) (fun i => hd 244 i (by omega)), UM_c i3 (fun i => hd 238 i (by omega)) (fun i => hd 244 i (by omega)) (fun i => hd 14 i (by omega)), VM_c i4 (fun i => hd 586 i (by omega)) (h1 7 (by omega) (by omega) (by omega)) (h1 0 (by omega) (by omega) (by omega)), TK_c i5 (fun i => hd 586 i (by omega)) (h1 7 (by omega) (by omega) (by omega)) (fun i => hd 14 i (by omega)) (h1 1 (by omega) (by omega) (by omega)), KC_c i6 (fun i => hd 586 i (by omega)) (h1 7 (by omega) (by omega) (by omega)) (fun i => hd 310 i (by omega)), SC_c i7 (fun i hi => h1 i (by omega) (by omega) (by omega)), MS_c i8 (fun i => hd 292 i (by omega)) (fun i => hd 298 i (by omega)) (fun i => hd 304 i (by omega)) (fun i => hd 310 i (by omega)) (h1 0 (by omega) (by omega) (by omega)), HG_c i9 (fun i => hd 538 i (by omega)) (fun i => hd 6766 i (by omega)), TI_c i10 (fun i => hd 532 i (by omega)) (fun i => hd 6730 i (by omega)) h3 (h1 5 (by omega) (by omega) (by omega)), SU_c i11 (fun i => hd 6736 i (by omega)) (h1 9 (by omega) (by omega) (by omega)) (h1 10 (by omega) (by omega) (by omega)) (h1 11 (by omega) (by omega) (by omega))⟩
theorem mq_tells {φ : (Nat → Nat) → Nat} (hφ : gp φ) {c k l wh : Nat} : ∀ (m to : Nat) (S : a_S), mq (a_tells c k l wh m to S) φ = mq S φ + sm (fun j => if to + j ≠ c ∧ (to + j < S 1 0 ∨ to + j = 6) then φ (fl9 c (to + j) k l 0 0 0 (S 316 (6 * c + c)) wh) else 0) m
  | 0, _, _ => rfl
  | m + 1, to, S => by
    unfold a_tells
    rw [mq_tells hφ m (to + 1), sm_f]
    simp only [Nat.add_zero]
    have q : ∀ j, to + 1 + j = to + (j + 1) := fun j => by omega
    by_cases h : to ≠ c ∧ (to < S 1 0 ∨ to = 6)
    · rw [if_pos h, if_pos h, mq_send hφ, as_1 (by omega), as_o (by omega)]
      simp only [q]
      omega
    · rw [if_neg h, if_neg h]
      simp only [q]
      omega
theorem VM_tells {c k l wh : Nat} (hk : k = 4 ∨ k = 5) (hw : k = 5 → wh = 0) (hc : c < 6) : ∀ (m to : Nat) (S : a_S), VM S → c < S 1 0 → VM (a_tells c k l wh m to S)
  | 0, _, _, h, _ => h
  | m + 1, to, S, h, hN => by
    unfold a_tells
    by_cases h9 : to ≠ c ∧ (to < S 1 0 ∨ to = 6)
    · rw [if_pos h9]
      refine VM_tells hk hw hc m (to + 1) _ (VM_send h ?_) (by rw [as_1 (by omega)]; exact hN)
      show 1 ≤ k ∧ k ≤ 5 ∧ (k = 3 → 1 ≤ 0 ∧ S 316 (6 * c + c) = 0 ∧ wh = 0) ∧ (k ≠ 3 → 0 = 0 ∧ 0 = 0 ∧ 0 = 0 ∧ c < 6) ∧ (k ≤ 2 → S 316 (6 * c + c) = 0 ∧ wh = 0) ∧ (k = 5 → wh = 0) ∧ c ≠ to ∧ (c < S 1 0 ∨ c = 6) ∧ (to < S 1 0 ∨ to = 6)
      exact ⟨by omega, by omega, by omega, fun _ => ⟨rfl, rfl, rfl, hc⟩, by omega, hw, by omega, Or.inl hN, h9.2⟩
    · rw [if_neg h9]
      exact VM_tells hk hw hc m (to + 1) S h hN
theorem INV_tells {S : a_S} {h : Nat → Nat} {c k l wh : Nat} (hi : INV S h) (hk : k = 4 ∨ k = 5) (hw : k = 5 → wh = 0) (hw4 : wh < 4) (hc : c < 6) (hN : c < S 1 0) (hl : l < 8) (hz : mq S (wk k c) = 0) (h5 : k = 5 → S 310 c ≠ 1) (hq : S 1 7 ≤ 233) : INV (a_tells c k l wh 7 0 S) h := by
  obtain ⟨i1, i2, i3, i4, i5, i6, i7, i8, i9, i10, i11⟩ := hi
  have o : ∀ r i, r ≠ 586 → r ≠ 1 → r ≠ 6814 → a_tells c k l wh 7 0 S r i = S r i := fun r i a b d => at_o ⟨a, b, d⟩ 7 0 S
  have o1 : ∀ i, i ≠ 7 → a_tells c k l wh 7 0 S 1 i = S 1 i := fun i a => at_1 a 7 0 S
  refine ⟨(RG_tells hc (by omega) hl hw4 7 0 S i1 (by omega) (by omega)).1, UD_c i2 (fun i => o 238 i (by omega) (by omega) (by omega)) (fun i => o 244 i (by omega) (by omega) (by omega)), UM_c i3 (fun i => o 238 i (by omega) (by omega) (by omega)) (fun i => o 244 i (by omega) (by omega) (by omega)) (fun i => o 14 i (by omega) (by omega) (by omega)), VM_tells hk hw hc 7 0 S i4 hN, ?_, ?_, SC_c i7 (fun i hi => o1 i (by omega)), MS_c i8 (fun i => o 292 i (by omega) (by omega) (by omega)) (fun i => o 298 i (by omega) (by omega) (by omega)) (fun i => o 304 i (by omega) (by omega) (by omega)) (fun i => o 310 i (by omega) (by omega) (by omega)) (o1 0 (by omega)), HG_c i9 (fun i => o 538 i (by omega) (by omega) (by omega)) (fun i => o 6766 i (by omega) (by omega) (by omega)), TI_c i10 (fun i => o 532 i (by omega) (by omega) (by omega)) (fun i => o 6730 i (by omega) (by omega) (by omega)) (fun c _ => o 316 _ (by omega) (by omega) (by omega)) (o1 5 (by omega)), SU_c i11 (fun i => o 6736 i (by omega) (by omega) (by omega)) (o1 9 (by omega)) (o1 10 (by omega)) (o1 11 (by omega))⟩
  · intro x hx
    rw [o1 1 (by omega), ← i5 x hx]
    unfold tkn
    have w0 : ∀ g, wt x (fl9 c g k l 0 0 0 (S 316 (6 * c + c)) wh) = 0 := fun g => by
      show (if l = x then 0 else 0) = 0
      split <;> rfl
    have o14 : ∀ i, a_tells c k l wh 7 0 S 14 i = S 14 i := fun i => o 14 i (by omega) (by omega) (by omega)
    have key : mq (a_tells c k l wh 7 0 S) (wt x) = mq S (wt x) := by
      rw [mq_tells (gp_t x), sm_c (g' := fun _ => 0) 7 (fun j _ => by simp only [w0, ite_self]), sm_0]
      rfl
    rw [key]
    simp only [o14]
  · refine ⟨?_, fun d hd => ?_⟩
    · have w0 : ∀ g, wa (fl9 c g k l 0 0 0 (S 316 (6 * c + c)) wh) = 0 := fun g => if_neg (show ¬ k ≤ 2 by omega)
      rw [mq_tells gp_a, sm_c (g' := fun _ => 0) 7 (fun j _ => by simp only [w0, ite_self]), sm_0]
      exact i6.1
    · have hs : ∀ k', sm (fun j => if 0 + j ≠ c ∧ (0 + j < S 1 0 ∨ 0 + j = 6) then wk k' d (fl9 c (0 + j) k l 0 0 0 (S 316 (6 * c + c)) wh) else 0) 7 ≤ (if c = d ∧ k = k' then 6 else 0) := by
        intro k'
        have e : sm (fun j => if 0 + j ≠ c ∧ (0 + j < S 1 0 ∨ 0 + j = 6) then wk k' d (fl9 c (0 + j) k l 0 0 0 (S 316 (6 * c + c)) wh) else 0) 7 ≤ sm (fun j => if c = d ∧ k = k' then (if j = c then 0 else 1) else 0) 7 := by
          apply sm_le
          intro j _
          show (if 0 + j ≠ c ∧ (0 + j < S 1 0 ∨ 0 + j = 6) then (if c = d ∧ k = k' then 1 else 0) else 0) ≤ if c = d ∧ k = k' then (if j = c then 0 else 1) else 0
          by_cases q1 : c = d ∧ k = k'
          · rw [if_pos q1, if_pos q1]
            split
            · rw [if_neg (by omega)]; omega
            · omega
          · rw [if_neg q1, if_neg q1]
            split <;> omega
        refine Nat.le_trans e ?_
        by_cases q1 : c = d ∧ k = k'
        · simp only [q1, and_self, if_true]
          have c9 : d = 0 ∨ d = 1 ∨ d = 2 ∨ d = 3 ∨ d = 4 ∨ d = 5 := by omega
          rcases c9 with c9 | c9 | c9 | c9 | c9 | c9 <;> subst c9 <;> decide
        · simp only [q1, if_false]
          rw [sm_0]
          omega
      have hd1 := i6.2 d hd
      have h4 := hs 4
      have h55 := hs 5
      rw [mq_tells (gp_k 4 d), mq_tells (gp_k 5 d), o 310 _ (by omega) (by omega) (by omega)]
      by_cases hcd : c = d
      · subst hcd
        rcases hk with hk | hk
        · subst hk
          rw [if_pos ⟨rfl, rfl⟩] at h4
          rw [if_neg (by omega)] at h55
          refine ⟨by omega, by omega, fun h9 => ?_⟩
          have := hd1.2.2 h9
          omega
        · subst hk
          rw [if_neg (by omega)] at h4
          rw [if_pos ⟨rfl, rfl⟩] at h55
          exact ⟨by omega, by omega, fun h9 => absurd h9 (h5 rfl)⟩
      · rw [if_neg (by omega)] at h4 h55
        refine ⟨by omega, by omega, fun h9 => ?_⟩
        have := hd1.2.2 h9
        omega
theorem e3_o {S : a_S} {c l r i : Nat} (h : r ≠ 292 ∧ r ≠ 298 ∧ r ≠ 304 ∧ r ≠ 310 ∧ r ≠ 1 ∧ r ≠ 6736) : a_ends3 S c l r i = a_ends1 S c l r i := by
  unfold a_ends3 a_ends2
  simp (disch := omega) only [sw_r]
theorem e3_1 {S : a_S} {c l i : Nat} (h : i ≠ 10) : a_ends3 S c l 1 i = a_ends1 S c l 1 i := by
  unfold a_ends3 a_ends2
  simp (disch := omega) only [sw_r, sw_i]
theorem INV_ends3 {S : a_S} {h : Nat → Nat} {c l : Nat} (hi : INV S h) (hc : c < 6) (hl : l < 8) (h0 : S 14 (8 * c + l) ≠ 0) : INV (a_ends3 S c l) h := by
  have f7 := UD_f7 hi.1 hi.2.1 hc hl
  have r3 := RG_ends3 hi.1 hl f7
  have e : INV (a_ends1 S c l) h := INV_does (INV_notes hi) hc hl (g_d hi.1 304 c (Or.inr rfl)) (by rw [an_o (by omega)]; exact h0)
  have hm : ∀ d, (d = c → a_ends3 S c l 292 d = 0 ∧ a_ends3 S c l 298 d = 0 ∧ a_ends3 S c l 304 d = 0 ∧ a_ends3 S c l 310 d = 0) ∧ (d ≠ c → a_ends3 S c l 292 d = a_ends1 S c l 292 d ∧ a_ends3 S c l 298 d = a_ends1 S c l 298 d ∧ a_ends3 S c l 304 d = a_ends1 S c l 304 d ∧ a_ends3 S c l 310 d = a_ends1 S c l 310 d) := by
    intro d
    refine ⟨fun hd => ?_, fun hd => ?_⟩
    · subst hd
      unfold a_ends3 a_ends2
      simp (disch := omega) only [sw_r, sw_at, and_self]
    · unfold a_ends3 a_ends2
      simp (disch := omega) only [sw_r, sw_i, and_self]
  have su := hi.2.2.2.2.2.2.2.2.2.2
  obtain ⟨i1, i2, i3, i4, i5, i6, i7, i8, i9, i10, i11⟩ := e
  refine ⟨r3, UD_c i2 (fun i => e3_o (by omega)) (fun i => e3_o (by omega)), UM_c i3 (fun i => e3_o (by omega)) (fun i => e3_o (by omega)) (fun i => e3_o (by omega)), VM_c i4 (fun i => e3_o (by omega)) (e3_1 (by omega)) (e3_1 (by omega)), TK_c i5 (fun i => e3_o (by omega)) (e3_1 (by omega)) (fun i => e3_o (by omega)) (e3_1 (by omega)), ?_, SC_c i7 (fun i hi => e3_1 (by omega)), ?_, HG_c i9 (fun i => e3_o (by omega)) (fun i => e3_o (by omega)), TI_c i10 (fun i => e3_o (by omega)) (fun i => e3_o (by omega)) (fun c _ => e3_o (by omega)) (e3_1 (by omega)), ?_⟩
  · have q := fun φ => mq_c (φ := φ) (S := a_ends1 S c l) (S' := a_ends3 S c l) (fun i => e3_o (by omega)) (e3_1 (by omega))
    refine ⟨by rw [q]; exact i6.1, fun d hd => ?_⟩
    rw [q, q]
    have hd1 := i6.2 d hd
    by_cases hdc : d = c
    · have := ((hm d).1 hdc).2.2.2
      exact ⟨hd1.1, hd1.2.1, by omega⟩
    · rw [((hm d).2 hdc).2.2.2]
      exact hd1
  · intro d hd
    have hd1 := i8 d hd
    by_cases hdc : d = c
    · have q := (hm d).1 hdc
      exact ⟨fun _ => q.2, fun h9 => absurd q.1 h9⟩
    · have q := (hm d).2 hdc
      rw [q.1, q.2.1, q.2.2.1, q.2.2.2, e3_1 (by omega)]
      exact hd1
  · have p9 : a_ends3 S c l 1 9 = S 1 9 := by rw [ae3_1 (by omega)]
    have p11 : a_ends3 S c l 1 11 = S 1 11 := by rw [ae3_1 (by omega)]
    have p10 : a_ends3 S c l 1 10 = S 1 10 + 1 := by
      unfold a_ends3
      simp (disch := omega) only [sw_r, sw_at]
    have pc : ∀ j, j ≠ 5 * c + 1 → j ≠ 5 * c + 2 → j ≠ 5 * c + 3 → a_ends3 S c l 6736 j = S 6736 j := by
      intro j a b d
      unfold a_ends3
      simp (disch := omega) only [sw_r, sw_i]
      exact ae2_o (by omega)
    have p1 : a_ends3 S c l 6736 (5 * c + 1) = S 6736 (5 * c + 1) + 1 := by
      unfold a_ends3
      simp (disch := omega) only [sw_i, sw_at]
    refine ⟨?_, ?_, ?_⟩
    · rw [p9, su.1]
      exact sm_c 6 (fun i _ => (pc _ (by omega) (by omega) (by omega)).symm)
    · have e1 := sm_one (g := fun d => S 6736 (5 * d + 1)) (g' := fun d => a_ends3 S c l 6736 (5 * d + 1)) 6 hc (fun i _ hn => pc _ (by omega) (by omega) (by omega))
      rw [p10, su.2.1]
      simp only [p1] at e1
      omega
    · rw [p11, su.2.2]
      exact sm_c 6 (fun i _ => (pc _ (by omega) (by omega) (by omega)).symm)
theorem INV_ends {S : a_S} {h : Nat → Nat} {c l : Nat} (hi : INV S h) (hc : c < 6) (hl : l < 8) (h0 : S 14 (8 * c + l) ≠ 0) (hm : S 292 c = l + 1) : INV (a_ends S c l) h := by
  have hq := INV_q hi
  have e := INV_ends3 hi hc hl h0
  have ms := (hi.2.2.2.2.2.2.2.1 c hc).2 (by omega)
  have kc := (hi.2.2.2.2.2.1.2 c hc).2.2
  have f7 := UD_f7 hi.1 hi.2.1 hc hl
  unfold a_ends
  split
  · rename_i hg
    have e4 : INV (a_ends4 S c l) h := by
      refine INV_log e (RG_ends4 hi.1 hl f7) (fun r i hr => ?_) (fun i _ _ _ => ?_)
      · unfold a_ends4
        rw [mk_o (by omega), sw_r (by omega)]
      · unfold a_ends4
        rw [mk_o (by omega), sw_r (by omega)]
    have z : mq (a_ends4 S c l) (wk 5 c) = 0 := by
      rw [mq_c (S := S) (fun i => ae4_o (by omega)) (ae4_1 (by omega))]
      exact kc hg
    refine INV_tells e4 (Or.inr rfl) (fun _ => rfl) (by omega) hc (by rw [ae4_1 (by omega)]; exact ms.2) hl z (fun _ => ?_) (by rw [ae4_1 (by omega)]; omega)
    have : a_ends4 S c l 310 c = 0 := by
      unfold a_ends4
      rw [mk_o (by omega), sw_r (by omega)]
      unfold a_ends3 a_ends2
      simp (disch := omega) only [sw_r, sw_at]
    omega
  · exact e
