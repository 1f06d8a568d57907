/-! ===== alike in what is there of the core: a like delivery ===== -/
def AGP (N q0 : Nat) (A0 B0 : Nat → Nat) (S S' : a_S) : Prop := (∀ r i, PRS N r i → S r i = S' r i) ∧ S 1 0 = N ∧ S' 1 0 = N ∧ S 1 1 = S' 1 1 ∧ S 1 2 = S' 1 2 ∧ S 1 7 = S' 1 7 ∧ q0 ≤ S 1 7 ∧ (∀ j, 9 * q0 ≤ j → j < 9 * S 1 7 → S 586 j = S' 586 j) ∧ (∀ j, j < 9 * q0 → S 586 j = A0 j ∧ S' 586 j = B0 j)
theorem PRS_cr {N r x : Nat} (h : PRS N r x) : cr r := by
  unfold PRS at h
  unfold cr
  omega
theorem ap_o {N q0 : Nat} {A0 B0 : Nat → Nat} {S S' T T' : a_S} (h : AGP N q0 A0 B0 S S') (h1 : ∀ r i, ¬ nco r i → T r i = S r i) (h2 : ∀ r i, ¬ nco r i → T' r i = S' r i) : AGP N q0 A0 B0 T T' := by
  obtain ⟨a1, a2, a2', a3, a4, a5, a6, a7, a8⟩ := h
  have e : ∀ j, j < 8 → T 1 j = S 1 j ∧ T' 1 j = S' 1 j := fun j hj => ⟨h1 1 j (by unfold nco; omega), h2 1 j (by unfold nco; omega)⟩
  have e5 : ∀ j, T 586 j = S 586 j ∧ T' 586 j = S' 586 j := fun j => ⟨h1 586 j (by unfold nco; omega), h2 586 j (by unfold nco; omega)⟩
  refine ⟨fun r i hr => ?_, ?_, ?_, ?_, ?_, ?_, ?_, fun j p q => ?_, fun j p => ?_⟩
  · rw [h1 r i (fun q => q.1 (PRS_cr hr)), h2 r i (fun q => q.1 (PRS_cr hr))]; exact a1 r i hr
  · rw [(e 0 (by omega)).1]; exact a2
  · rw [(e 0 (by omega)).2]; exact a2'
  · rw [(e 1 (by omega)).1, (e 1 (by omega)).2]; exact a3
  · rw [(e 2 (by omega)).1, (e 2 (by omega)).2]; exact a4
  · rw [(e 7 (by omega)).1, (e 7 (by omega)).2]; exact a5
  · rw [(e 7 (by omega)).1]; exact a6
  · rw [(e5 j).1, (e5 j).2]; exact a7 j p (by rw [(e 7 (by omega)).1] at q; exact q)
  · rw [(e5 j).1, (e5 j).2]; exact a8 j p
/-- any change of the core alone -/
theorem ap_c {N q0 : Nat} {A0 B0 : Nat → Nat} {S S' T T' : a_S} (h : AGP N q0 A0 B0 S S') (h1 : ∀ r i, ¬ cr r → T r i = S r i) (h2 : ∀ r i, ¬ cr r → T' r i = S' r i) (h3 : ∀ r i, PRS N r i → T r i = T' r i) : AGP N q0 A0 B0 T T' := by
  obtain ⟨a1, a2, a2', a3, a4, a5, a6, a7, a8⟩ := h
  have n1 : ¬ cr 1 := by unfold cr; omega
  have n5 : ¬ cr 586 := by unfold cr; omega
  refine ⟨h3, by rw [h1 1 0 n1]; exact a2, by rw [h2 1 0 n1]; exact a2', by rw [h1 1 1 n1, h2 1 1 n1]; exact a3, by rw [h1 1 2 n1, h2 1 2 n1]; exact a4, by rw [h1 1 7 n1, h2 1 7 n1]; exact a5, by rw [h1 1 7 n1]; exact a6, fun j p q => ?_, fun j p => ?_⟩
  · rw [h1 586 j n5, h2 586 j n5]; exact a7 j p (by rw [h1 1 7 n1] at q; exact q)
  · rw [h1 586 j n5, h2 586 j n5]; exact a8 j p
theorem ap_sw {N q0 : Nat} {A0 B0 : Nat → Nat} {S S' : a_S} {r i v v' : Nat} (h : AGP N q0 A0 B0 S S') (hv : PRS N r i → v = v') (hr : r ≠ 586 ∧ (r = 1 → 8 ≤ i) := by omega) : AGP N q0 A0 B0 (sw S r i v) (sw S' r i v') := by
  by_cases c : cr r
  · refine ap_c h (fun x j hx => sw_r (fun q => hx (by rw [q]; exact c))) (fun x j hx => sw_r (fun q => hx (by rw [q]; exact c))) (fun x j hx => ?_)
    unfold sw
    by_cases q : x = r ∧ j = i
    · rw [if_pos q, if_pos q]
      exact hv (by rw [← q.1, ← q.2]; exact hx)
    · rw [if_neg q, if_neg q]
      exact h.1 x j hx
  · refine ap_o h (fun x j hx => sw_ne ?_) (fun x j hx => sw_ne ?_) <;> · intro q; rw [q.1, q.2] at hx; exact hx ⟨c, hr.1, hr.2⟩
theorem ap_send {N q0 : Nat} {A0 B0 : Nat → Nat} {S S' : a_S} {f t k l mn ow wi nt wh nt' : Nat} (h : AGP N q0 A0 B0 S S') (hn : nt = nt') : AGP N q0 A0 B0 (a_send S f t k l mn ow wi nt wh) (a_send S' f t k l mn ow wi nt' wh) := by
  subst hn
  obtain ⟨a1, a2, a2', a3, a4, a5, a6, a7, a8⟩ := h
  have e1 : ∀ (U : a_S) (j : Nat), j ≠ 7 → a_send U f t k l mn ow wi nt wh 1 j = U 1 j := fun U j hj => as_1 hj
  have e7 : ∀ U : a_S, a_send U f t k l mn ow wi nt wh 1 7 = U 1 7 + 1 := fun U => as_7
  have e5 : ∀ (U : a_S) (j : Nat), a_send U f t k l mn ow wi nt wh 586 j = if 9 * U 1 7 ≤ j ∧ j < 9 * U 1 7 + 9 then fl9 f t k l mn ow wi nt wh (j - 9 * U 1 7) else U 586 j := fun U j => rfl
  refine ⟨fun r i hr => ?_, ?_, ?_, ?_, ?_, ?_, ?_, fun j p q => ?_, fun j p => ?_⟩
  · have hc := PRS_cr hr
    rw [as_o (by unfold cr at hc; omega), as_o (by unfold cr at hc; omega)]
    exact a1 r i hr
  · rw [e1 _ 0 (by omega)]; exact a2
  · rw [e1 _ 0 (by omega)]; exact a2'
  · rw [e1 _ 1 (by omega), e1 _ 1 (by omega)]; exact a3
  · rw [e1 _ 2 (by omega), e1 _ 2 (by omega)]; exact a4
  · rw [e7, e7, a5]
  · rw [e7]; omega
  · rw [e7] at q
    rw [e5, e5, ← a5]
    by_cases c : 9 * S 1 7 ≤ j ∧ j < 9 * S 1 7 + 9
    · rw [if_pos c, if_pos c]
    · rw [if_neg c, if_neg c]
      exact a7 j p (by omega)
  · rw [e5, e5, ← a5, if_neg (by omega), if_neg (by omega)]
    exact a8 j p
theorem ap_notes {N q0 : Nat} {A0 B0 : Nat → Nat} {S S' : a_S} {w c l : Nat} (h : AGP N q0 A0 B0 S S') : AGP N q0 A0 B0 (a_notes S w c l) (a_notes S' w c l) :=
  ap_o h (fun r i hr => an_o (by unfold nco cr at hr; omega)) (fun r i hr => an_o (by unfold nco cr at hr; omega))
theorem ap_sees {N q0 : Nat} {A0 B0 : Nat → Nat} {S S' : a_S} {c v : Nat} (h : AGP N q0 A0 B0 S S') : AGP N q0 A0 B0 (a_sees S c v) (a_sees S' c v) :=
  ap_o h (fun r i hr => asee_o (by unfold nco cr at hr; omega)) (fun r i hr => asee_o (by unfold nco cr at hr; omega))
theorem ap_rem {N q0 : Nat} {A0 B0 : Nat → Nat} {S S' : a_S} {nd f l : Nat} (h : AGP N q0 A0 B0 S S') : AGP N q0 A0 B0 (a_rem S nd f l) (a_rem S' nd f l) :=
  ap_o h (fun r i hr => re_o (by unfold nco cr at hr; omega)) (fun r i hr => re_o (by unfold nco cr at hr; omega))
theorem fr_c {P Q : Nat → Prop} [DecidablePred P] [DecidablePred Q] : ∀ (m k : Nat), (∀ j, k ≤ j → j < k + m → (P j ↔ Q j)) → fr P m k = fr Q m k
  | 0, _, _ => rfl
  | m + 1, k, h => by
    unfold fr
    rw [fr_c m (k + 1) (fun j h1 h2 => h j (by omega) (by omega))]
    by_cases c : P k
    · rw [if_pos c, if_pos ((h k (by omega) (by omega)).1 c)]
    · rw [if_neg c, if_neg (fun q => c ((h k (by omega) (by omega)).2 q))]
theorem ap_used {N q0 : Nat} {A0 B0 : Nat → Nat} {S S' : a_S} {c l : Nat} (h : AGP N q0 A0 B0 S S') (hc : c < N) (h8 : S 238 c ≤ 8) : a_used S c l = a_used S' c l := by
  unfold a_used
  rw [← h.1 238 c (by unfold PRS; omega)]
  exact fr_c _ _ (fun j h1 h2 => by rw [h.1 244 (8 * c + j) (by unfold PRS; omega)])
theorem ap_turn {N q0 : Nat} {A0 B0 : Nat → Nat} {S S' : a_S} {nd l : Nat} (h : AGP N q0 A0 B0 S S') (hN : N ≤ 6) (hd : nd < N ∨ nd = 6) : a_turn S nd l = a_turn S' nd l := by
  unfold a_turn
  rw [h.2.1, h.2.2.1]
  exact fr_c _ _ (fun j h1 h2 => by rw [h.1 358 (6 * nd + j) (by unfold PRS; omega), h.1 400 (6 * nd + j) (by unfold PRS; omega)])
theorem ap_forget {N q0 : Nat} {A0 B0 : Nat → Nat} {S S' : a_S} {c l : Nat} (h : AGP N q0 A0 B0 S S') (hc : c < N) (h8 : S 238 c ≤ 8) : AGP N q0 A0 B0 (a_forget S c l) (a_forget S' c l) := by
  unfold a_forget
  rw [ap_used h hc h8, h.1 238 c (by unfold PRS; omega)]
  have h8' : S' 238 c ≤ 8 := by rw [← h.1 238 c (by unfold PRS; omega)]; exact h8
  split
  · exact h
  · have h1 : AGP N q0 A0 B0 (sw S 238 c (S' 238 c - 1)) (sw S' 238 c (S' 238 c - 1)) := ap_sw h (fun _ => rfl)
    have hU : S' 238 c - 1 ≤ 7 := by omega
    generalize S' 238 c - 1 = U at *
    clear h8 h8' h
    generalize sw S 238 c U = T at *
    generalize sw S' 238 c U = T' at *
    refine ap_c h1 (fun r i hr => if_neg (fun q => hr (by rw [q]; unfold cr; omega))) (fun r i hr => if_neg (fun q => hr (by rw [q]; unfold cr; omega))) (fun r i hr => ?_)
    unfold a_shift
    by_cases q : r = 244
    · subst q
      rw [if_pos rfl, if_pos rfl]
      by_cases q1 : 8 * c + (a_used S' c l - 1) ≤ i ∧ i < 8 * c + U
      · rw [if_pos q1, if_pos q1]
        exact h1.1 244 (i + 1) (by unfold PRS; omega)
      · rw [if_neg q1, if_neg q1]
        by_cases q2 : i = 8 * c + U
        · rw [if_pos q2, if_pos q2]
        · rw [if_neg q2, if_neg q2]
          exact h1.1 244 i hr
    · rw [if_neg q, if_neg q]
      exact h1.1 r i hr
theorem ap_use {N q0 : Nat} {A0 B0 : Nat → Nat} {S S' : a_S} {c l : Nat} (h : AGP N q0 A0 B0 S S') (hc : c < N) (h8 : S 238 c ≤ 8) : AGP N q0 A0 B0 (a_use S c l) (a_use S' c l) := by
  have e := ap_forget (l := l) h hc h8
  unfold a_use
  rw [e.1 238 c (by unfold PRS; omega)]
  exact ap_sw (ap_sw e (fun _ => rfl)) (fun _ => rfl)
theorem ap_does {N q0 : Nat} {A0 B0 : Nat → Nat} {S S' : a_S} {c l w v : Nat} (h : AGP N q0 A0 B0 S S') (hc : c < N) (hl : l < 8) (h8 : S 238 c ≤ 8) : AGP N q0 A0 B0 (a_does S c l w v) (a_does S' c l w v) := by
  have e1 := h.1 182 (8 * c + l) (by unfold PRS; omega)
  have a1 : AGP N q0 A0 B0 (a_does1 S c l w v) (a_does1 S' c l w v) := by
    unfold a_does1
    rw [e1]
    split
    · exact ap_sw h (fun _ => rfl)
    · exact ap_sees h
  have a2 : AGP N q0 A0 B0 (a_does2 S c l w v) (a_does2 S' c l w v) := by
    unfold a_does2
    rw [e1]
    split
    · exact ap_sw a1 (fun _ => rfl)
    · exact a1
  exact ap_use a2 hc (by rw [ad2_o (by omega)]; exact h8)
theorem ap_gives {N q0 : Nat} {A0 B0 : Nat → Nat} {S S' : a_S} {nd t l mn ow da : Nat} (h : AGP N q0 A0 B0 S S') (hN : N ≤ 6) (hd : nd < N ∨ nd = 6) (hl : l < 8) (h8 : nd < N → S 238 nd ≤ 8) : AGP N q0 A0 B0 (a_gives S nd t l mn ow da) (a_gives S' nd t l mn ow da) := by
  have e1 := h.1 182 (8 * nd + l) (by unfold PRS; omega)
  have e2 := h.1 14 (8 * nd + l) (by unfold PRS; omega)
  have a0 : AGP N q0 A0 B0 (a_gives0 S nd t l mn ow da) (a_gives0 S' nd t l mn ow da) := by
    unfold a_gives0
    rw [e1, e2]
    exact ap_sw (ap_send h rfl) (fun _ => rfl)
  have a1 : AGP N q0 A0 B0 (a_gives1 S nd t l mn ow da) (a_gives1 S' nd t l mn ow da) := by
    unfold a_gives1
    split
    · exact a0
    · exact ap_sw a0 (fun _ => rfl)
  have a2 : AGP N q0 A0 B0 (a_gives2 S nd t l mn ow da) (a_gives2 S' nd t l mn ow da) := by
    unfold a_gives2
    exact ap_sw (ap_sw a1 (fun _ => rfl)) (fun _ => rfl)
  unfold a_gives
  rw [e2]
  split
  · split
    · exact a2
    · refine ap_forget a2 (by omega) ?_
      have e : a_gives2 S nd t l mn ow da 238 nd = S 238 nd := by
        unfold a_gives2 a_gives1 a_gives0
        rw [sw_r (by omega), sw_r (by omega)]
        split
        · rw [sw_r (by omega), as_o (by omega)]
        · rw [sw_r (by omega), sw_r (by omega), as_o (by omega)]
      rw [e]
      exact h8 (by omega)
  · exact a1
theorem ap_givesAll {N q0 : Nat} {A0 B0 : Nat → Nat} {S S' : a_S} {nd t l : Nat} (h : AGP N q0 A0 B0 S S') (hN : N ≤ 6) (hd : nd < N ∨ nd = 6) (hl : l < 8) (h8 : nd < N → S 238 nd ≤ 8) : AGP N q0 A0 B0 (a_givesAll S nd t l) (a_givesAll S' nd t l) := by
  unfold a_givesAll
  rw [h.1 14 (8 * nd + l) (by unfold PRS; omega), h.1 70 (8 * nd + l) (by unfold PRS; omega)]
  exact ap_gives h hN hd hl h8
theorem ap_settles {N q0 : Nat} {A0 B0 : Nat → Nat} {S S' : a_S} {nd l : Nat} (h : AGP N q0 A0 B0 S S') (hN : N ≤ 6) (hd : nd < N ∨ nd = 6) (hl : l < 8) (h8 : nd < N → S 238 nd ≤ 8) : AGP N q0 A0 B0 (a_settles S nd l) (a_settles S' nd l) := by
  have ht := ap_turn (l := l) h hN hd
  have tl := g_turn (S := S) (nd := nd) (l := l)
  rw [h.2.1, ht] at tl
  unfold a_settles
  rw [ht, h.1 14 (8 * nd + l) (by unfold PRS; omega), h.1 70 (8 * nd + l) (by unfold PRS; omega)]
  by_cases c : a_turn S' nd l = 0 ∨ a_turn S' nd l = nd + 1 ∨ S' 14 (8 * nd + l) = 0
  · rw [if_pos c, if_pos c]
    exact h
  · rw [if_neg c, if_neg c, h.1 442 (6 * nd + (a_turn S' nd l - 1)) (by unfold PRS; omega)]
    split
    · exact ap_givesAll h hN hd hl h8
    · split
      · exact ap_gives h hN hd hl h8
      · split
        · exact h
        · exact ap_givesAll h hN hd hl h8
theorem ap_tells {N q0 : Nat} {A0 B0 : Nat → Nat} {c k l wh : Nat} (hc : c < N) (hN : N ≤ 6) : ∀ (m to : Nat) (S S' : a_S), AGP N q0 A0 B0 S S' → AGP N q0 A0 B0 (a_tells c k l wh m to S) (a_tells c k l wh m to S')
  | 0, _, _, _, h => h
  | m + 1, to, S, S', h => by
    unfold a_tells
    rw [h.2.1, h.2.2.1]
    split
    · exact ap_tells hc hN m (to + 1) _ _ (ap_send h (h.1 316 _ (by unfold PRS; omega)))
    · exact ap_tells hc hN m (to + 1) _ _ h
theorem ap_ends {N q0 : Nat} {A0 B0 : Nat → Nat} {S S' : a_S} {c l : Nat} (h : AGP N q0 A0 B0 S S') (hN : N ≤ 6) (hc : c < N) (hl : l < 8) (h8 : S 238 c ≤ 8) : AGP N q0 A0 B0 (a_ends S c l) (a_ends S' c l) := by
  have a1 : AGP N q0 A0 B0 (a_ends1 S c l) (a_ends1 S' c l) := by
    unfold a_ends1
    rw [h.1 298 c (by unfold PRS; omega), h.1 304 c (by unfold PRS; omega)]
    exact ap_does (ap_notes h) hc hl (by rw [an_o (by omega)]; exact h8)
  have a2 : AGP N q0 A0 B0 (a_ends2 S c l) (a_ends2 S' c l) := by
    unfold a_ends2
    exact ap_sw (ap_sw (ap_sw (ap_sw a1 (fun _ => rfl)) (fun _ => rfl)) (fun _ => rfl)) (fun _ => rfl)
  have a3 : AGP N q0 A0 B0 (a_ends3 S c l) (a_ends3 S' c l) := by
    unfold a_ends3
    refine ap_sw (ap_sw (ap_sw (ap_sw a2 (fun hp => ?_)) (fun hp => ?_)) (fun hp => ?_)) (fun hp => ?_)
    · exact absurd hp (by unfold PRS; omega)
    · exact absurd hp (by unfold PRS; omega)
    · exact absurd hp (by unfold PRS; omega)
    · exact absurd hp (by unfold PRS; omega)
  unfold a_ends
  rw [h.1 310 c (by unfold PRS; omega)]
  split
  · refine ap_tells hc hN 7 0 _ _ ?_
    have a4 : AGP N q0 A0 B0 (sw (a_ends3 S c l) 358 (6 * c + c) 0) (sw (a_ends3 S' c l) 358 (6 * c + c) 0) := ap_sw a3 (fun _ => rfl)
    unfold a_ends4
    generalize sw (a_ends3 S c l) 358 (6 * c + c) 0 = T at *
    generalize sw (a_ends3 S' c l) 358 (6 * c + c) 0 = T' at *
    refine ap_c a4 (fun r i hr => if_neg (fun q => hr (by rw [q.1]; unfold cr; omega))) (fun r i hr => if_neg (fun q => hr (by rw [q.1]; unfold cr; omega))) (fun r i hr => ?_)
    unfold a_mk
    rw [a4.2.1, a4.2.2.1, a4.1 r i hr]
    by_cases q : r = 484 ∧ 6 * c + 0 ≤ i ∧ i < 6 * c + N
    · rw [a4.1 358 i (by unfold PRS; omega), a4.1 400 i (by unfold PRS; omega)]
    · rw [if_neg (fun w => q ⟨w.1, w.2.1, w.2.2.1⟩), if_neg (fun w => q ⟨w.1, w.2.1, w.2.2.1⟩)]
  · exact a3
theorem ap_evicts {N q0 : Nat} {A0 B0 : Nat → Nat} {S S' : a_S} {c l : Nat} (h : AGP N q0 A0 B0 S S') (hN : N ≤ 6) (hc : c < N) (hl : l < 8) (h8 : S 238 c ≤ 8) : AGP N q0 A0 B0 (a_evicts S c l) (a_evicts S' c l) := by
  unfold a_evicts
  exact ap_sw (ap_givesAll (ap_notes h) hN (Or.inl hc) hl (fun _ => by rw [an_o (by omega)]; exact h8)) (fun hp => absurd hp (by unfold PRS; omega))
theorem ap_take {N q0 : Nat} {A0 B0 : Nat → Nat} {S S' : a_S} {nd l mn ow wi : Nat} (h : AGP N q0 A0 B0 S S') : AGP N q0 A0 B0 (a_take S nd l mn ow wi) (a_take S' nd l mn ow wi) := by
  have a1 : AGP N q0 A0 B0 (a_take1 S nd l mn) (a_take1 S' nd l mn) := by
    unfold a_take1
    exact ap_sw h (fun hp => by rw [h.1 _ _ hp])
  have a2 : AGP N q0 A0 B0 (a_take2 (a_take1 S nd l mn) nd l ow) (a_take2 (a_take1 S' nd l mn) nd l ow) := by
    unfold a_take2
    split
    · exact ap_sw a1 (fun _ => rfl)
    · exact a1
  unfold a_take a_take3
  split
  · exact a2
  · exact ap_sw (ap_sw a2 (fun _ => rfl)) (fun _ => rfl)
theorem ap_c272 {N q0 : Nat} {A0 B0 : Nat → Nat} {S S' : a_S} {nd l : Nat} {hh : Nat → Nat} (h : AGP N q0 A0 B0 S S') (hN : N ≤ 6) (hd : nd < N ∨ nd = 6) (hl : l < 8) (hi : INV S hh) : AGP N q0 A0 B0 (a_c272 S nd l) (a_c272 S' nd l) := by
  have hH : ∀ w, a_H S nd l w = a_H S' nd l w := by
    intro w
    unfold a_H
    rw [h.1 126 _ (by unfold PRS; omega), h.1 14 _ (by unfold PRS; omega), h.2.2.2.1]
  have h8 := g_8 hi.1 238 nd (by omega)
  by_cases n6 : nd = 6
  · unfold a_c272
    rw [if_neg (fun q => q.1 n6), if_neg (fun q => q.1 n6)]
    exact ap_settles h hN hd hl (fun _ => h8)
  · have hc : nd < N := by omega
    have e1 := h.1 292 nd (by unfold PRS; omega)
    have e2 := h.1 298 nd (by unfold PRS; omega)
    by_cases q : nd ≠ 6 ∧ S 292 nd = l + 1 ∧ a_H S nd l (S 298 nd)
    · have q' : nd ≠ 6 ∧ S' 292 nd = l + 1 ∧ a_H S' nd l (S' 298 nd) := by rw [← e1, ← e2, ← hH]; exact q
      unfold a_c272
      rw [if_pos q, if_pos q']
      have sc := hi.2.2.2.2.2.2.1
      have h0 : S 14 (8 * nd + l) ≠ 0 := by
        have := q.2.2.2
        unfold SC at sc
        omega
      have ie := INV_ends hi (by omega) hl h0 q.2.1
      exact ap_settles (ap_ends h hN hc hl h8) hN hd hl (fun _ => g_8 ie.1 238 nd (by omega))
    · have q' : ¬ (nd ≠ 6 ∧ S' 292 nd = l + 1 ∧ a_H S' nd l (S' 298 nd)) := by rw [← e1, ← e2, ← hH]; exact q
      unfold a_c272
      rw [if_neg q, if_neg q']
      exact ap_settles h hN hd hl (fun _ => h8)
theorem ap_c178 {N q0 : Nat} {A0 B0 : Nat → Nat} {S S' : a_S} {nd l mn ow wi : Nat} {hh h' : Nat → Nat} (h : AGP N q0 A0 B0 S S') (hN : N ≤ 6) (hd : nd < N) (hl : l < 8) (hi : INV S hh) (hw : wi ≤ 10000) (hm : 1 ≤ mn) (hx : ∀ x, hh x = h' x + if l = x then mn else 0) : AGP N q0 A0 B0 (a_c178 S nd l mn ow wi) (a_c178 S' nd l mn ow wi) := by
  have h8 := g_8 hi.1 238 nd (by omega)
  unfold a_c178
  rw [h.1 14 _ (by unfold PRS; omega)]
  split
  · exact ap_c272 (ap_take (ap_use h hd h8)) hN (Or.inl hd) hl (INV_usetake (ow := ow) hi (by omega) hl hw hm hx)
  · exact ap_c272 (ap_take h) hN (Or.inl hd) hl (INV_take (ow := ow) hi (by omega) hl hw hx)
theorem ap_c82 {N q0 : Nat} {A0 B0 : Nat → Nat} {S S' : a_S} {nd l mn ow wi : Nat} {hh h' : Nat → Nat} (h : AGP N q0 A0 B0 S S') (hN : N ≤ 6) (hd : nd < N) (hl : l < 8) (hi : INV S hh) (hw : wi ≤ 10000) (hm : 1 ≤ mn) (hx : ∀ x, hh x = h' x + if l = x then mn else 0) : AGP N q0 A0 B0 (a_c82 S nd l mn ow wi) (a_c82 S' nd l mn ow wi) := by
  have sc := hi.2.2.2.2.2.2.1
  have h8 := g_8 hi.1 238 nd (by omega)
  have e14 := h.1 14 (8 * nd + l) (by unfold PRS; omega)
  have e38 := h.1 238 nd (by unfold PRS; omega)
  have e92 := h.1 292 nd (by unfold PRS; omega)
  have e44 := h.1 244 (8 * nd) (by unfold PRS; omega)
  have e45 := h.1 244 (8 * nd + 1) (by unfold PRS; omega)
  have eeld : a_eld S' nd l = a_eld S nd l := by
    unfold a_eld
    rw [e44, e45]
  unfold a_c82
  rw [eeld, ← e14, ← e38, ← e92, ← h.2.2.2.2.1]
  split
  · rename_i h1
    split
    · have u0 := (hi.2.2.1 nd (by omega)).1 0 (by unfold SC at sc; omega)
      rw [Nat.add_zero] at u0
      have ne : S 244 (8 * nd) ≠ l := by
        intro e
        rw [e] at u0
        exact u0 h1.1
      have el : a_eld S nd l = S 244 (8 * nd) := by
        unfold a_eld
        rw [if_neg ne]
      have l8 := g_l hi.1 244 (8 * nd) (Or.inl rfl)
      rw [el]
      exact ap_c178 (ap_evicts h hN hd l8 h8) hN hd hl (INV_evicts hi (by rw [h.2.1]; exact hd) l8 u0) hw hm hx
    · exact ap_send (ap_notes h) rfl
  · exact ap_c178 h hN hd hl hi hw hm hx
theorem ap_del {S T : a_S} {i k : Nat} (hi : INV S z0) (hc : ∀ r x, PRS (S 1 0) r x → S r x = T r x) (h0 : S 1 0 = T 1 0) (h1 : S 1 1 = T 1 1) (h2 : S 1 2 = T 1 2) (h7 : S 1 7 = T 1 7) (hlt : i < S 1 7) (hm : ∀ j, j < 9 → S 586 (9 * i + j) = T 586 (9 * k + j)) : AGP (S 1 0) (S 1 7 - 1) (a_rm S i 586) (a_rm T k 586) (a_del S i) (a_del T k) := by
  have g := g_f hi.1 i
  have v := hi.2.2.2.1 i hlt
  have n6 := g_n hi.1
  unfold VMf at v
  have f0 : fd S i 0 = S 586 (9 * i) := rfl
  have f1 : fd S i 1 = S 586 (9 * i + 1) := rfl
  have f2 : fd S i 2 = S 586 (9 * i + 2) := rfl
  have f3 : fd S i 3 = S 586 (9 * i + 3) := rfl
  have f4 : fd S i 4 = S 586 (9 * i + 4) := rfl
  have f7 : fd S i 7 = S 586 (9 * i + 7) := rfl
  have f8 : fd S i 8 = S 586 (9 * i + 8) := rfl
  rw [f0, f1, f2, f4, f7, f8] at v
  have e1 : INV (a_rm S i) (fun x => wt x (fd S i)) := INV_rm hi hlt (fun x => by show _ = 0 + _; omega)
  have b : AGP (S 1 0) (S 1 7 - 1) (a_rm S i 586) (a_rm T k 586) (a_rm S i) (a_rm T k) := by
    refine ⟨fun r x hr => ?_, rm_1 (by omega), by rw [rm_1 (by omega), ← h0], ?_, ?_, ?_, ?_, fun j p q => ?_, fun j p => ⟨rfl, rfl⟩⟩
    · have hcr := PRS_cr hr
      rw [rm_q (by unfold cr at hcr; omega), rm_q (by unfold cr at hcr; omega)]; exact hc r x hr
    · rw [rm_1 (by omega), rm_1 (by omega), h1]
    · rw [rm_1 (by omega), rm_1 (by omega), h2]
    · rw [rm_7, rm_7, h7]
    · rw [rm_7]; exact Nat.le_refl _
    · rw [rm_7] at q; omega
  have h8 := g_8 e1.1 238 (S 586 (9 * i + 1)) (by omega)
  have vd := v.2.2.2.2.2.2.2.2
  have m0 := hm 0 (by omega)
  rw [Nat.add_zero, Nat.add_zero] at m0
  have ans : ∀ w, AGP (S 1 0) (S 1 7 - 1) (a_rm S i 586) (a_rm T k 586) (a_answers (a_rm S i) (S 586 (9 * i + 1)) (S 586 (9 * i)) (S 586 (9 * i + 3)) w) (a_answers (a_rm T k) (S 586 (9 * i + 1)) (S 586 (9 * i)) (S 586 (9 * i + 3)) w) := by
    intro w
    have b2 : AGP (S 1 0) (S 1 7 - 1) (a_rm S i 586) (a_rm T k 586) (a_ans2 (a_rm S i) (S 586 (9 * i + 1)) (S 586 (9 * i)) (S 586 (9 * i + 3)) w) (a_ans2 (a_rm T k) (S 586 (9 * i + 1)) (S 586 (9 * i)) (S 586 (9 * i + 3)) w) := ap_o b (fun r x hr => an2_o (by unfold nco cr at hr; omega)) (fun r x hr => an2_o (by unfold nco cr at hr; omega))
    have h8' : S 586 (9 * i + 1) < S 1 0 → a_ans2 (a_rm S i) (S 586 (9 * i + 1)) (S 586 (9 * i)) (S 586 (9 * i + 3)) w 238 (S 586 (9 * i + 1)) ≤ 8 := fun _ => by rw [an2_o (by omega)]; exact h8
    unfold a_answers a_ans3
    rw [ap_turn b2 n6 vd, b2.1 14 _ (by unfold PRS; omega), b2.1 70 _ (by unfold PRS; omega)]
    split
    · exact b2
    · split
      · exact ap_givesAll b2 n6 vd g.2.2.2.1 h8'
      · split
        · exact ap_gives b2 n6 vd g.2.2.2.1 h8'
        · exact b2
  unfold a_del
  rw [← m0, ← hm 1 (by omega), ← hm 2 (by omega), ← hm 3 (by omega), ← hm 4 (by omega), ← hm 5 (by omega), ← hm 6 (by omega), ← hm 7 (by omega), ← hm 8 (by omega)]
  split
  · exact ans 0
  · split
    · exact ans 1
    · split
      · rename_i kk
        have q := v.2.2.1 kk
        have hx : ∀ x, wt x (fd S i) = z0 x + if S 586 (9 * i + 3) = x then S 586 (9 * i + 4) else 0 := fun x => by
          show (if fd S i 3 = x then fd S i 4 else 0) = 0 + _
          rw [f3, f4]; omega
        unfold a_comes
        split
        · exact ap_c272 (ap_take b) n6 vd g.2.2.2.1 (INV_take (ow := S 586 (9 * i + 5)) e1 g.2.1 g.2.2.2.1 g.2.2.2.2.2.2.1 hx)
        · exact ap_c82 (ap_rem b) n6 (by omega) g.2.2.2.1 (INV_rem e1 (by omega) g.1 g.2.2.2.1 (by omega)) g.2.2.2.2.2.2.1 q.1 hx
      · split
        · rename_i kk
          have q := v.2.2.2.1 (by omega)
          unfold a_asked
          rw [b.1 316 _ (by unfold PRS; omega)]
          split
          · exact b
          · refine ap_settles ?_ n6 vd g.2.2.2.1 (fun _ => by rw [ak1_o (by omega)]; exact h8)
            unfold a_asked1
            exact ap_sw (ap_sw (ap_sw (ap_sw (ap_sw b (fun _ => rfl)) (fun _ => rfl)) (fun _ => rfl)) (fun _ => rfl)) (fun _ => rfl)
        · rename_i kk
          have q := v.2.2.2.1 (by omega)
          unfold a_reca
          rw [b.1 316 _ (by unfold PRS; omega)]
          split
          · exact b
          · refine ap_settles ?_ n6 vd g.2.2.2.1 (fun _ => by rw [rc1_o (by omega)]; exact h8)
            unfold a_reca1
            exact ap_sw (ap_sw (ap_sw b (fun _ => rfl)) (fun _ => rfl)) (fun _ => rfl)
