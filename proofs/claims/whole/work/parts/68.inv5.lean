/-! ===== asking, beginning, ticks keep what always holds ===== -/
theorem INV_one {S : a_S} {h : Nat → Nat} {c t l : Nat} (hi : INV S h) (hc : c < 6) (ht : t < 7) (hm : S 292 c = l + 1) (hl : l < 8) (hN : c < S 1 0) (hne : c ≠ t) (htN : t < S 1 0 ∨ t = 6) : INV (a_one S c t) h := by
  have hq := INV_q hi
  have hr := RG_one (t := t) hi.1 (by omega) hc ht
  unfold a_one at hr ⊢
  by_cases h60 : a_asking S = 60
  · rw [if_pos h60] at hr ⊢
    exact INV_log hi hr (fun r i hr => sw_r (by omega)) (fun i _ _ _ => sw_i (by omega))
  · rw [if_neg h60] at hr ⊢
    generalize hk : (if S 298 c = 1 then 1 else 2) = k at *
    have hk2 : k = 1 ∨ k = 2 := by rw [← hk]; split <;> omega
    rw [hm, Nat.add_sub_cancel] at hr ⊢
    obtain ⟨i1, i2, i3, i4, i5, i6, i7, i8, i9, i10, i11⟩ := hi
    refine ⟨hr, UD_c i2 (fun i => as_o (by omega)) (fun i => as_o (by omega)), UM_c i3 (fun i => as_o (by omega)) (fun i => as_o (by omega)) (fun i => as_o (by omega)), VM_send i4 ?_, ?_, ?_, SC_c i7 (fun i hi => as_1 (by omega)), MS_c i8 (fun i => as_o (by omega)) (fun i => as_o (by omega)) (fun i => as_o (by omega)) (fun i => as_o (by omega)) (as_1 (by omega)), HG_c i9 (fun i => as_o (by omega)) (fun i => as_o (by omega)), TI_c i10 (fun i => as_o (by omega)) (fun i => as_o (by omega)) (fun c _ => as_o (by omega)) (as_1 (by omega)), SU_c i11 (fun i => as_o (by omega)) (as_1 (by omega)) (as_1 (by omega)) (as_1 (by omega))⟩
    · show 1 ≤ k ∧ k ≤ 5 ∧ (k = 3 → 1 ≤ 0 ∧ 0 = 0 ∧ 0 = 0) ∧ (k ≠ 3 → 0 = 0 ∧ 0 = 0 ∧ 0 = 0 ∧ c < 6) ∧ (k ≤ 2 → 0 = 0 ∧ 0 = 0) ∧ (k = 5 → 0 = 0) ∧ c ≠ t ∧ (c < S 1 0 ∨ c = 6) ∧ (t < S 1 0 ∨ t = 6)
      exact ⟨by omega, by omega, by omega, fun _ => ⟨rfl, rfl, rfl, hc⟩, fun _ => ⟨rfl, rfl⟩, fun _ => rfl, hne, Or.inl hN, htN⟩
    · intro x hx
      have e : wt x (fl9 c t k l 0 0 0 0 0) = 0 := by
        show (if l = x then 0 else 0) = 0
        split <;> rfl
      have i9 := i5 x hx
      unfold tkn at i9 ⊢
      rw [mq_send (gp_t x), as_1 (by omega), e, sm_c (g' := fun n => S 14 (8 * n + x)) 7 (fun n _ => as_o (by omega))]
      omega
    · have ea : wa (fl9 c t k l 0 0 0 0 0) = 1 := if_pos (show k ≤ 2 by omega)
      rw [mq_ask] at h60
      refine ⟨?_, fun d hd => ?_⟩
      · rw [mq_send gp_a, ea]
        have := i6.1
        omega
      · have e4 : wk 4 d (fl9 c t k l 0 0 0 0 0) = 0 := if_neg (fun h9 => absurd h9.2 (show ¬ k = 4 by omega))
        have e5 : wk 5 d (fl9 c t k l 0 0 0 0 0) = 0 := if_neg (fun h9 => absurd h9.2 (show ¬ k = 5 by omega))
        rw [mq_send (gp_k 4 d), mq_send (gp_k 5 d), e4, e5, as_o (by omega)]
        exact i6.2 d hd
theorem INV_askT {B : Nat → Nat} {h : Nat → Nat} {c l n : Nat} (hc : c < 6) (hl : l < 8) (hN : c < n) (hB : ∀ k, B k = 1 → k < n ∧ k ≠ c) : ∀ (m k : Nat) (S : a_S), INV S h → S 292 c = l + 1 → S 1 0 = n → INV (a_askT B c m k S) h
  | 0, _, _, hi, _, _ => hi
  | m + 1, k, S, hi, hm, hn => by
    have hn6 := g_n hi.1
    rw [ak_s]
    split
    · rename_i hk
      have hb := hB k hk
      exact INV_askT hc hl hN hB m (k + 1) _ (INV_one hi hc (by omega) hm hl (by omega) (by omega) (by omega)) (by rw [one_o (by omega)]; exact hm) (by rw [one_1 (by omega)]; exact hn)
    · exact INV_askT hc hl hN hB m (k + 1) S hi hm hn
theorem tg_1 {S : a_S} {c l k : Nat} (hg : HG S) (hc : c < 6) (hl : l < 8) (h : a_tg S c l k = 1) : k < S 1 0 ∧ k ≠ c := by
  have hg1 := hg c l hc hl
  unfold a_tg at h
  by_cases h1 : S 1 0 ≤ k
  · rw [if_pos h1] at h
    omega
  · rw [if_neg h1] at h
    refine ⟨by omega, ?_⟩
    intro e
    subst e
    (repeat' split at h) <;> omega
theorem INV_asks {S : a_S} {h : Nat → Nat} {c l : Nat} (hi : INV S h) (hc : c < 6) (hl : l < 8) (hm : S 292 c = l + 1) (hN : c < S 1 0) : INV (a_asks S c l) h := by
  unfold a_asks
  have e := INV_askT (B := a_tg S c l) (l := l) hc hl hN (fun k hk => tg_1 hi.2.2.2.2.2.2.2.2.1 hc hl hk) 6 0 S hi hm rfl
  refine INV_one e hc (by omega) (by rw [ak_o (by omega)]; exact hm) hl (by rw [ak_i (by omega)]; exact hN) (by omega) (Or.inr rfl)
theorem INV_hit {S : a_S} {h : Nat → Nat} {c l w v : Nat} (hi : INV S h) (hc : c < 6) (hl : l < 8) (hv : v < 10000) (h0 : S 14 (8 * c + l) ≠ 0) : INV (a_hit S c l w v) h := by
  have e0 : INV (a_hit0 S c) h := by
    have hr := RG_hit0 (c := c) hi.1
    have o : ∀ r i, r ≠ 1 → r ≠ 6736 → a_hit0 S c r i = S r i := fun r i a b => hi0_o ⟨a, b⟩
    have o1 : ∀ i, i ≠ 9 → a_hit0 S c 1 i = S 1 i := fun i a => by unfold a_hit0; rw [sw_r (by omega), sw_i a]
    obtain ⟨i1, i2, i3, i4, i5, i6, i7, i8, i9, i10, i11⟩ := hi
    refine ⟨hr, UD_c i2 (fun i => o _ _ (by omega) (by omega)) (fun i => o _ _ (by omega) (by omega)), UM_c i3 (fun i => o _ _ (by omega) (by omega)) (fun i => o _ _ (by omega) (by omega)) (fun i => o _ _ (by omega) (by omega)), VM_c i4 (fun i => o _ _ (by omega) (by omega)) (o1 7 (by omega)) (o1 0 (by omega)), TK_c i5 (fun i => o _ _ (by omega) (by omega)) (o1 7 (by omega)) (fun i => o _ _ (by omega) (by omega)) (o1 1 (by omega)), KC_c i6 (fun i => o _ _ (by omega) (by omega)) (o1 7 (by omega)) (fun i => o _ _ (by omega) (by omega)), SC_c i7 (fun i hi => o1 i (by omega)), MS_c i8 (fun i => o _ _ (by omega) (by omega)) (fun i => o _ _ (by omega) (by omega)) (fun i => o _ _ (by omega) (by omega)) (fun i => o _ _ (by omega) (by omega)) (o1 0 (by omega)), HG_c i9 (fun i => o _ _ (by omega) (by omega)) (fun i => o _ _ (by omega) (by omega)), TI_c i10 (fun i => o _ _ (by omega) (by omega)) (fun i => o _ _ (by omega) (by omega)) (fun c _ => o _ _ (by omega) (by omega)) (o1 5 (by omega)), ?_⟩
    have p9 : a_hit0 S c 1 9 = S 1 9 + 1 := by unfold a_hit0; rw [sw_r (by omega), sw_at]
    have pc : ∀ j, j ≠ 5 * c → a_hit0 S c 6736 j = S 6736 j := fun j a => by unfold a_hit0; rw [sw_i a, sw_r (by omega)]
    have p1 : a_hit0 S c 6736 (5 * c) = S 6736 (5 * c) + 1 := by unfold a_hit0; rw [sw_at]
    refine ⟨?_, ?_, ?_⟩
    · have e1 := sm_one (g := fun d => S 6736 (5 * d)) (g' := fun d => a_hit0 S c 6736 (5 * d)) 6 hc (fun i _ hn => pc _ (by omega))
      rw [p9, i11.1]
      simp only [p1] at e1
      omega
    · rw [o1 10 (by omega), i11.2.1]
      exact sm_c 6 (fun i _ => (pc _ (by omega)).symm)
    · rw [o1 11 (by omega), i11.2.2]
      exact sm_c 6 (fun i _ => (pc _ (by omega)).symm)
  unfold a_hit
  exact INV_does (INV_notes e0) hc hl hv (by rw [an_o (by omega), hi0_o (by omega)]; exact h0)
theorem mi0_at {S : a_S} {c l w v : Nat} : a_mis0 S c l w v 292 c = l + 1 ∧ a_mis0 S c l w v 298 c = w ∧ a_mis0 S c l w v 304 c = v ∧ a_mis0 S c l w v 310 c = 0 ∧ a_mis0 S c l w v 526 c = 1 ∧ a_mis0 S c l w v 532 c = S 1 5 ∧ a_mis0 S c l w v 6730 c = S 1 5 := by
  unfold a_mis0
  simp (disch := omega) only [sw_r, sw_at, and_self]
theorem mi0_ne {S : a_S} {c l w v r d : Nat} (h : d ≠ c) : a_mis0 S c l w v r d = S r d := by
  unfold a_mis0
  rw [sw_ne (by omega), sw_ne (by omega), sw_ne (by omega), sw_ne (by omega), sw_ne (by omega), sw_ne (by omega), sw_ne (by omega)]
theorem INV_mis {S : a_S} {h : Nat → Nat} {c l w v : Nat} (hi : INV S h) (hc : c < 6) (hl : l < 8) (hw1 : 1 ≤ w) (hw : w < 4) (hv : v < 10000) (hN : c < S 1 0) : INV (a_mis S c l w v) h := by
  have e0 : INV (a_mis0 S c l w v) h := by
    have hr := RG_mis0 (c := c) (l := l) (w := w) (v := v) hi.1 hl hw hv
    have o : ∀ r i, r ≠ 292 → r ≠ 298 → r ≠ 304 → r ≠ 526 → r ≠ 532 → r ≠ 6730 → r ≠ 310 → a_mis0 S c l w v r i = S r i := fun r i a b d e f g k => mi0_o ⟨a, b, d, e, f, g, k⟩
    have at' := mi0_at (S := S) (c := c) (l := l) (w := w) (v := v)
    obtain ⟨i1, i2, i3, i4, i5, i6, i7, i8, i9, i10, i11⟩ := hi
    have o1 : ∀ i, a_mis0 S c l w v 1 i = S 1 i := fun i => mi0_o (by omega)
    refine ⟨hr, UD_c i2 (fun i => mi0_o (by omega)) (fun i => mi0_o (by omega)), UM_c i3 (fun i => mi0_o (by omega)) (fun i => mi0_o (by omega)) (fun i => mi0_o (by omega)), VM_c i4 (fun i => mi0_o (by omega)) (o1 7) (o1 0), TK_c i5 (fun i => mi0_o (by omega)) (o1 7) (fun i => mi0_o (by omega)) (o1 1), ?_, SC_c i7 (fun i hi => o1 i), ?_, HG_c i9 (fun i => mi0_o (by omega)) (fun i => mi0_o (by omega)), ?_, SU_c i11 (fun i => mi0_o (by omega)) (o1 9) (o1 10) (o1 11)⟩
    · have q := fun φ => mq_c (φ := φ) (S := S) (S' := a_mis0 S c l w v) (fun i => mi0_o (by omega)) (o1 7)
      refine ⟨by rw [q]; exact i6.1, fun d hd => ?_⟩
      rw [q, q]
      have hd1 := i6.2 d hd
      by_cases hdc : d = c
      · subst hdc
        exact ⟨hd1.1, hd1.2.1, by omega⟩
      · rw [mi0_ne hdc]
        exact hd1
    · intro d hd
      by_cases hdc : d = c
      · subst hdc
        rw [o1 0]
        exact ⟨by omega, fun _ => ⟨by omega, hN⟩⟩
      · rw [mi0_ne hdc, mi0_ne hdc, mi0_ne hdc, mi0_ne hdc, o1 0]
        exact i8 d hd
    · intro d hd
      have hd1 := i10 d hd
      rw [o1 5, mi0_o (r := 316) (by omega)]
      by_cases hdc : d = c
      · subst hdc
        exact ⟨by omega, by omega, hd1.2.2⟩
      · rw [mi0_ne hdc, mi0_ne hdc]
        exact hd1
  unfold a_mis
  refine INV_asks (INV_notes e0) hc hl (by rw [an_o (by omega)]; exact mi0_at.1) (by rw [an_o (by omega), mi0_o (by omega)]; exact hN)
theorem INV_begins {S : a_S} {h : Nat → Nat} {c l w v : Nat} (hi : INV S h) (hc : c < 6) (hl : l < 8) (hw1 : 1 ≤ w) (hw : w < 4) (hv : v < 10000) (hN : c < S 1 0) : INV (a_begins S c l w v) h := by
  have sc := hi.2.2.2.2.2.2.1
  unfold SC at sc
  unfold a_begins
  split
  · rename_i hh
    exact INV_hit hi hc hl hv (by have := hh.2; omega)
  · exact INV_mis hi hc hl hw1 hw hv hN
/-- tables and log changed -/
theorem INV_tab {S S' : a_S} {h : Nat → Nat} (hi : INV S h) (hr : RG S') (hd : ∀ r i, r = 14 ∨ r = 238 ∨ r = 244 ∨ r = 586 ∨ r = 292 ∨ r = 298 ∨ r = 304 ∨ r = 310 ∨ r = 538 ∨ r = 6766 ∨ r = 532 ∨ r = 6730 ∨ r = 6736 → S' r i = S r i) (h3 : ∀ c, c < 6 → S' 316 (6 * c + c) ≤ S 1 5) (h1 : ∀ i, i < 12 → i ≠ 6 → i ≠ 8 → S' 1 i = S 1 i) : INV S' h := by
  obtain ⟨_, i2, i3, i4, i5, i6, i7, i8, i9, i10, i11⟩ := hi
  refine ⟨hr, UD_c i2 (fun i => hd 238 i (by omega)) (fun i => hd 244 i (by omega)), UM_c i3 (fun i => hd 238 i (by omega)) (fun i => hd 244 i (by omega)) (fun i => hd 14 i (by omega)), VM_c i4 (fun i => hd 586 i (by omega)) (h1 7 (by omega) (by omega) (by omega)) (h1 0 (by omega) (by omega) (by omega)), TK_c i5 (fun i => hd 586 i (by omega)) (h1 7 (by omega) (by omega) (by omega)) (fun i => hd 14 i (by omega)) (h1 1 (by omega) (by omega) (by omega)), KC_c i6 (fun i => hd 586 i (by omega)) (h1 7 (by omega) (by omega) (by omega)) (fun i => hd 310 i (by omega)), SC_c i7 (fun i hi => h1 i (by omega) (by omega) (by omega)), MS_c i8 (fun i => hd 292 i (by omega)) (fun i => hd 298 i (by omega)) (fun i => hd 304 i (by omega)) (fun i => hd 310 i (by omega)) (h1 0 (by omega) (by omega) (by omega)), HG_c i9 (fun i => hd 538 i (by omega)) (fun i => hd 6766 i (by omega)), fun c hc => ?_, SU_c i11 (fun i => hd 6736 i (by omega)) (h1 9 (by omega) (by omega) (by omega)) (h1 10 (by omega) (by omega) (by omega)) (h1 11 (by omega) (by omega) (by omega))⟩
  rw [hd 532 c (by omega), hd 6730 c (by omega), h1 5 (by omega) (by omega) (by omega)]
  exact ⟨(i10 c hc).1, (i10 c hc).2.1, h3 c hc⟩
theorem msg4_0 {S : a_S} {c k : Nat} (h : a_msg4 S c = 0) (hk : 4 ≤ k) : mq S (wk k c) = 0 := by
  unfold mq
  rw [sm_c (g' := fun _ => 0) (S 1 7) (fun i hi => ?_), sm_0]
  have := fr_0 (P := fun i => S 586 (9 * i) = c ∧ 4 ≤ S 586 (9 * i + 2)) _ _ h i (by omega) (by omega)
  unfold wk
  rw [if_neg]
  intro h9
  exact this ⟨h9.1, by have : S 586 (9 * i + 2) = k := h9.2; omega⟩
theorem INV_afg {S : a_S} {h : Nat → Nat} {c l : Nat} (hi : INV S h) (hc : c < 6) (hl : l < 8) (hm : S 292 c = l + 1) (hN : c < S 1 0) (hs : S 316 (6 * c + c) < S 1 5) (h4 : a_msg4 S c = 0) : INV (a_afg S c l) h := by
  have hq := INV_q hi
  have htk := g_tk hi.1
  unfold a_afg
  generalize hw : (if S 298 c = 1 then 1 else 2) = w
  have hw4 : w < 4 := by rw [← hw]; split <;> omega
  have i1 : INV (a_afg1 S c l w) h := by
    refine INV_tab hi (RG_afg1 hi.1 (by omega) hl hw4) (fun r i hr => af1_o (by omega)) (fun d hd => ?_) (fun i _ _ _ => af1_o (by omega))
    have ti := (hi.2.2.2.2.2.2.2.2.2.1 d hd).2.2
    unfold a_afg1
    rw [sw_r (by omega), sw_r (by omega), sw_r (by omega), sw_r (by omega)]
    by_cases hdc : d = c
    · subst hdc
      rw [sw_at]
      omega
    · rw [sw_i (by omega)]
      exact ti
  have i2 := INV_notes (w := 3) (c := c) (l := l) i1
  have o2 : ∀ i, a_notes (a_afg1 S c l w) 3 c l 586 i = S 586 i := fun i => by rw [an_o (by omega), af1_o (by omega)]
  have o17 : a_notes (a_afg1 S c l w) 3 c l 1 7 = S 1 7 := by rw [an_o (by omega), af1_o (by omega)]
  have z4 : mq (a_notes (a_afg1 S c l w) 3 c l) (wk 4 c) = 0 := by rw [mq_c o2 o17]; exact msg4_0 h4 (by omega)
  have i3 : INV (a_afg2 S c l w) h := INV_tells i2 (Or.inl rfl) (by omega) hw4 hc (by rw [an_o (by omega), af1_o (by omega)]; exact hN) hl z4 (by omega) (by rw [o17]; omega)
  have g3 := RG_afg3 (c := c) (l := l) (w := w) hi.1 (by omega) hc (by omega) hl hw4
  have z5 : mq (a_afg2 S c l w) (wk 5 c) = 0 := by
    unfold a_afg2
    rw [mq_tells (gp_k 5 c), mq_c o2 o17, msg4_0 h4 (by omega), sm_c (g' := fun _ => 0) 7 (fun j _ => ?_), sm_0]
    split
    · exact if_neg (fun h9 => absurd h9.2 (by show ¬ 4 = 5; omega))
    · rfl
  have i4 : INV (a_afg3 S c l w) h := by
    have o : ∀ r i, r ≠ 310 → r ≠ 1 → r ≠ 6736 → a_afg3 S c l w r i = a_afg2 S c l w r i := fun r i a b d => by unfold a_afg3; rw [sw_r d, sw_r b, sw_r a]
    have o1 : ∀ i, i ≠ 11 → a_afg3 S c l w 1 i = a_afg2 S c l w 1 i := fun i a => by unfold a_afg3; rw [sw_r (by omega), sw_i a, sw_r (by omega)]
    have o310 : ∀ d, d ≠ c → a_afg3 S c l w 310 d = a_afg2 S c l w 310 d := fun d a => by unfold a_afg3; rw [sw_r (by omega), sw_r (by omega), sw_i a]
    have m2 : a_afg2 S c l w 292 c = l + 1 := by rw [af2_o (by omega)]; exact hm
    have su := hi.2.2.2.2.2.2.2.2.2.2
    obtain ⟨j1, j2, j3, j4, j5, j6, j7, j8, j9, j10, j11⟩ := i3
    refine ⟨g3.1, UD_c j2 (fun i => o _ _ (by omega) (by omega) (by omega)) (fun i => o _ _ (by omega) (by omega) (by omega)), UM_c j3 (fun i => o _ _ (by omega) (by omega) (by omega)) (fun i => o _ _ (by omega) (by omega) (by omega)) (fun i => o _ _ (by omega) (by omega) (by omega)), VM_c j4 (fun i => o _ _ (by omega) (by omega) (by omega)) (o1 7 (by omega)) (o1 0 (by omega)), TK_c j5 (fun i => o _ _ (by omega) (by omega) (by omega)) (o1 7 (by omega)) (fun i => o _ _ (by omega) (by omega) (by omega)) (o1 1 (by omega)), ?_, SC_c j7 (fun i hi => o1 i (by omega)), ?_, HG_c j9 (fun i => o _ _ (by omega) (by omega) (by omega)) (fun i => o _ _ (by omega) (by omega) (by omega)), TI_c j10 (fun i => o _ _ (by omega) (by omega) (by omega)) (fun i => o _ _ (by omega) (by omega) (by omega)) (fun c _ => o _ _ (by omega) (by omega) (by omega)) (o1 5 (by omega)), ?_⟩
    · have q := fun φ => mq_c (φ := φ) (S := a_afg2 S c l w) (S' := a_afg3 S c l w) (fun i => o _ _ (by omega) (by omega) (by omega)) (o1 7 (by omega))
      refine ⟨by rw [q]; exact j6.1, fun d hd => ?_⟩
      rw [q, q]
      have hd1 := j6.2 d hd
      by_cases hdc : d = c
      · subst hdc
        exact ⟨hd1.1, hd1.2.1, fun _ => z5⟩
      · rw [o310 d hdc]
        exact hd1
    · intro d hd
      have hd1 := j8 d hd
      rw [o _ _ (by omega) (by omega) (by omega), o _ _ (by omega) (by omega) (by omega), o _ _ (by omega) (by omega) (by omega), o1 0 (by omega)]
      by_cases hdc : d = c
      · subst hdc
        exact ⟨fun h9 => by omega, hd1.2⟩
      · rw [o310 d hdc]
        exact hd1
    · have pc : ∀ j, j ≠ 5 * c + 4 → a_afg3 S c l w 6736 j = S 6736 j := fun j a => by
        unfold a_afg3
        rw [sw_i a, sw_r (by omega), sw_r (by omega), af2_o (by omega)]
      have p1 : a_afg3 S c l w 6736 (5 * c + 4) = S 6736 (5 * c + 4) + 1 := by unfold a_afg3; rw [sw_at]
      have p11 : a_afg3 S c l w 1 11 = S 1 11 + 1 := by unfold a_afg3; rw [sw_r (by omega), sw_at]
      refine ⟨?_, ?_, ?_⟩
      · rw [o1 9 (by omega), af2_1 (by omega), su.1]
        exact sm_c 6 (fun i _ => (pc _ (by omega)).symm)
      · rw [o1 10 (by omega), af2_1 (by omega), su.2.1]
        exact sm_c 6 (fun i _ => (pc _ (by omega)).symm)
      · have e1 := sm_one (g := fun d => S 6736 (5 * d + 4)) (g' := fun d => a_afg3 S c l w 6736 (5 * d + 4)) 6 hc (fun i _ hn => pc _ (by omega))
        rw [p11, su.2.2]
        simp only [p1] at e1
        omega
  refine INV_settles i4 (by omega) hl ?_
  have : a_afg3 S c l w 1 0 = S 1 0 := by
    unfold a_afg3
    rw [sw_r (by omega), sw_i (by omega), sw_r (by omega), af2_1 (by omega)]
  rw [this]
  exact Or.inl hN
theorem INV_tk1 {S : a_S} {h : Nat → Nat} {c l : Nat} (hi : INV S h) (hc : c < 6) (hl : l < 8) (hm : S 292 c = l + 1) (hN : c < S 1 0) : INV (a_tk1 S c l) h := by
  have e0 : INV (a_tk0 S c) h := by
    have hr := RG_tk0 (c := c) hi.1
    obtain ⟨i1, i2, i3, i4, i5, i6, i7, i8, i9, i10, i11⟩ := hi
    refine ⟨hr, UD_c i2 (fun i => tk0_o (by omega)) (fun i => tk0_o (by omega)), UM_c i3 (fun i => tk0_o (by omega)) (fun i => tk0_o (by omega)) (fun i => tk0_o (by omega)), VM_c i4 (fun i => tk0_o (by omega)) (tk0_o (by omega)) (tk0_o (by omega)), TK_c i5 (fun i => tk0_o (by omega)) (tk0_o (by omega)) (fun i => tk0_o (by omega)) (tk0_o (by omega)), KC_c i6 (fun i => tk0_o (by omega)) (tk0_o (by omega)) (fun i => tk0_o (by omega)), SC_c i7 (fun i hi => tk0_o (by omega)), MS_c i8 (fun i => tk0_o (by omega)) (fun i => tk0_o (by omega)) (fun i => tk0_o (by omega)) (fun i => tk0_o (by omega)) (tk0_o (by omega)), HG_c i9 (fun i => tk0_o (by omega)) (fun i => tk0_o (by omega)), ?_, SU_c i11 (fun i => tk0_o (by omega)) (tk0_o (by omega)) (tk0_o (by omega)) (tk0_o (by omega))⟩
    intro d hd
    have hd1 := i10 d hd
    rw [tk0_o (r := 6730) (by omega), tk0_o (r := 1) (by omega), tk0_o (r := 316) (by omega)]
    refine ⟨?_, hd1.2⟩
    unfold a_tk0
    by_cases hdc : d = c
    · subst hdc
      rw [sw_at]
      exact Nat.le_refl _
    · rw [sw_i hdc, sw_r (by omega)]
      exact hd1.1
  unfold a_tk1
  exact INV_asks (INV_notes e0) hc hl (by rw [an_o (by omega), tk0_o (by omega)]; exact hm) (by rw [an_o (by omega), tk0_o (by omega)]; exact hN)
theorem INV_ticksOf {S : a_S} {h : Nat → Nat} {c : Nat} (hi : INV S h) (hc : c < 6) (hN : c < S 1 0) (hs : S 316 (6 * c + c) < S 1 5) : INV (a_ticksOf S c) h := by
  have g := g_mv hi.1 c
  unfold a_ticksOf
  split
  · exact hi
  · split
    · exact INV_tk1 hi hc (by omega) (by omega) hN
    · rename_i h1 h2
      exact INV_afg hi hc (by omega) (by omega) hN hs (Decidable.byContradiction fun e => h2 (Or.inr (fun e2 => e e2.1)))
