/-! ===== what is alike in the core stays so, whatever other messages there are ===== -/
def cr (r : Nat) : Prop := r = 14 ∨ r = 70 ∨ r = 126 ∨ r = 182 ∨ r = 238 ∨ r = 244 ∨ r = 292 ∨ r = 298 ∨ r = 304 ∨ r = 310 ∨ r = 316 ∨ r = 358 ∨ r = 400 ∨ r = 442 ∨ r = 484
/-- alike in the core and in the messages from q0 on; the q0 first are A0 here, B0 there -/
def AGM (q0 : Nat) (A0 B0 : Nat → Nat) (S S' : a_S) : Prop := (∀ r i, cr r → S r i = S' r i) ∧ S 1 0 = S' 1 0 ∧ S 1 1 = S' 1 1 ∧ S 1 2 = S' 1 2 ∧ S 1 7 = S' 1 7 ∧ q0 ≤ S 1 7 ∧ (∀ j, 9 * q0 ≤ j → j < 9 * S 1 7 → S 586 j = S' 586 j) ∧ (∀ j, j < 9 * q0 → S 586 j = A0 j ∧ S' 586 j = B0 j)
def nco (r i : Nat) : Prop := ¬ cr r ∧ r ≠ 586 ∧ (r = 1 → 8 ≤ i)
theorem ah_o {q0 : Nat} {A0 B0 : Nat → Nat} {S S' T T' : a_S} (h : AGM q0 A0 B0 S S') (h1 : ∀ r i, ¬ nco r i → T r i = S r i) (h2 : ∀ r i, ¬ nco r i → T' r i = S' r i) : AGM q0 A0 B0 T T' := by
  obtain ⟨a1, a2, a3, a4, a5, a6, a7, a8⟩ := h
  have e : ∀ j, j < 8 → T 1 j = S 1 j ∧ T' 1 j = S' 1 j := fun j hj => ⟨h1 1 j (by unfold nco; omega), h2 1 j (by unfold nco; omega)⟩
  have e5 : ∀ j, T 586 j = S 586 j ∧ T' 586 j = S' 586 j := fun j => ⟨h1 586 j (by unfold nco; omega), h2 586 j (by unfold nco; omega)⟩
  refine ⟨fun r i hr => ?_, ?_, ?_, ?_, ?_, ?_, fun j p q => ?_, fun j p => ?_⟩
  · rw [h1 r i (fun q => q.1 hr), h2 r i (fun q => q.1 hr)]; exact a1 r i hr
  · rw [(e 0 (by omega)).1, (e 0 (by omega)).2]; exact a2
  · rw [(e 1 (by omega)).1, (e 1 (by omega)).2]; exact a3
  · rw [(e 2 (by omega)).1, (e 2 (by omega)).2]; exact a4
  · rw [(e 7 (by omega)).1, (e 7 (by omega)).2]; exact a5
  · rw [(e 7 (by omega)).1]; exact a6
  · rw [(e5 j).1, (e5 j).2]; exact a7 j p (by rw [(e 7 (by omega)).1] at q; exact q)
  · rw [(e5 j).1, (e5 j).2]; exact a8 j p
theorem ah_sw {q0 : Nat} {A0 B0 : Nat → Nat} {S S' : a_S} {r i v v' : Nat} (h : AGM q0 A0 B0 S S') (hv : cr r → v = v') (hr : r ≠ 586 ∧ (r = 1 → 8 ≤ i) := by omega) : AGM q0 A0 B0 (sw S r i v) (sw S' r i v') := by
  by_cases c : cr r
  · obtain ⟨a1, a2, a3, a4, a5, a6, a7, a8⟩ := h
    have r1 : r ≠ 1 := by unfold cr at c; omega
    have e1 : ∀ (U : a_S) (w j : Nat), sw U r i w 1 j = U 1 j := fun U w j => sw_r (by omega)
    have e5 : ∀ (U : a_S) (w j : Nat), sw U r i w 586 j = U 586 j := fun U w j => sw_r (by omega)
    refine ⟨fun x j hx => ?_, ?_, ?_, ?_, ?_, ?_, fun j p q => ?_, fun j p => ?_⟩
    · unfold sw
      rw [hv c, a1 x j hx]
    · rw [e1, e1]; exact a2
    · rw [e1, e1]; exact a3
    · rw [e1, e1]; exact a4
    · rw [e1, e1]; exact a5
    · rw [e1]; exact a6
    · rw [e1] at q; rw [e5, e5]; exact a7 j p q
    · rw [e5, e5]; exact a8 j p
  · refine ah_o h (fun x j hx => sw_ne ?_) (fun x j hx => sw_ne ?_) <;> · intro q; rw [q.1, q.2] at hx; exact hx ⟨c, hr.1, hr.2⟩
theorem ah_send {q0 : Nat} {A0 B0 : Nat → Nat} {S S' : a_S} {f t k l mn ow wi nt wh nt' : Nat} (h : AGM q0 A0 B0 S S') (hn : nt = nt') : AGM q0 A0 B0 (a_send S f t k l mn ow wi nt wh) (a_send S' f t k l mn ow wi nt' wh) := by
  subst hn
  obtain ⟨a1, a2, a3, a4, a5, a6, a7, a8⟩ := h
  have r1 : ∀ r, cr r → r ≠ 586 ∧ r ≠ 1 ∧ r ≠ 6814 := fun r hr => by unfold cr at hr; omega
  have e1 : ∀ (U : a_S) (j : Nat), j ≠ 7 → a_send U f t k l mn ow wi nt wh 1 j = U 1 j := fun U j hj => as_1 hj
  have e7 : ∀ U : a_S, a_send U f t k l mn ow wi nt wh 1 7 = U 1 7 + 1 := fun U => as_7
  have e5 : ∀ (U : a_S) (j : Nat), a_send U f t k l mn ow wi nt wh 586 j = if 9 * U 1 7 ≤ j ∧ j < 9 * U 1 7 + 9 then fl9 f t k l mn ow wi nt wh (j - 9 * U 1 7) else U 586 j := fun U j => rfl
  refine ⟨fun r i hr => ?_, ?_, ?_, ?_, ?_, ?_, fun j p q => ?_, fun j p => ?_⟩
  · have := r1 r hr
    unfold a_send
    rw [if_neg this.1, if_neg this.2.1, if_neg this.2.2, if_neg this.1, if_neg this.2.1, if_neg this.2.2]
    exact a1 r i hr
  · rw [e1 _ 0 (by omega), e1 _ 0 (by omega)]; exact a2
  · rw [e1 _ 1 (by omega), e1 _ 1 (by omega)]; exact a3
  · rw [e1 _ 2 (by omega), e1 _ 2 (by omega)]; exact a4
  · rw [e7, e7, a5]
  · rw [e7]; omega
  · rw [e7] at q
    rw [e5, e5, ← a5]
    by_cases c : 9 * S 1 7 ≤ j ∧ j < 9 * S 1 7 + 9
    · rw [if_pos c, if_pos c]
    · rw [if_neg c, if_neg c]
      exact a7 j p (by omega)
  · rw [e5, e5, ← a5, if_neg (by omega), if_neg (by omega)]
    exact a8 j p
theorem ah_notes {q0 : Nat} {A0 B0 : Nat → Nat} {S S' : a_S} {w c l : Nat} (h : AGM q0 A0 B0 S S') : AGM q0 A0 B0 (a_notes S w c l) (a_notes S' w c l) :=
  ah_o h (fun r i hr => an_o (by unfold nco cr at hr; omega)) (fun r i hr => an_o (by unfold nco cr at hr; omega))
theorem ah_sees {q0 : Nat} {A0 B0 : Nat → Nat} {S S' : a_S} {c v : Nat} (h : AGM q0 A0 B0 S S') : AGM q0 A0 B0 (a_sees S c v) (a_sees S' c v) :=
  ah_o h (fun r i hr => asee_o (by unfold nco cr at hr; omega)) (fun r i hr => asee_o (by unfold nco cr at hr; omega))
theorem ah_shift {q0 : Nat} {A0 B0 : Nat → Nat} {S S' : a_S} {c k U : Nat} (h : AGM q0 A0 B0 S S') : AGM q0 A0 B0 (a_shift S c k U) (a_shift S' c k U) := by
  obtain ⟨a1, a2, a3, a4, a5, a6, a7, a8⟩ := h
  have o : ∀ (X : a_S) (r j : Nat), r ≠ 244 → a_shift X c k U r j = X r j := fun X r j hr => if_neg hr
  have e4 : ∀ i, S 244 i = S' 244 i := fun i => a1 244 i (by unfold cr; omega)
  refine ⟨fun r i hr => ?_, ?_, ?_, ?_, ?_, ?_, fun j p q => ?_, fun j p => ?_⟩
  · unfold a_shift
    simp only [e4, a1 r i hr]
  · rw [o _ _ _ (by omega), o _ _ _ (by omega)]; exact a2
  · rw [o _ _ _ (by omega), o _ _ _ (by omega)]; exact a3
  · rw [o _ _ _ (by omega), o _ _ _ (by omega)]; exact a4
  · rw [o _ _ _ (by omega), o _ _ _ (by omega)]; exact a5
  · rw [o _ _ _ (by omega)]; exact a6
  · rw [o _ _ _ (by omega)] at q; rw [o _ _ _ (by omega), o _ _ _ (by omega)]; exact a7 j p q
  · rw [o _ _ _ (by omega), o _ _ _ (by omega)]; exact a8 j p
theorem ah_mk {q0 : Nat} {A0 B0 : Nat → Nat} {S S' : a_S} {c l k : Nat} (h : AGM q0 A0 B0 S S') : AGM q0 A0 B0 (a_mk S c l k) (a_mk S' c l k) := by
  obtain ⟨a1, a2, a3, a4, a5, a6, a7, a8⟩ := h
  have o : ∀ (X : a_S) (r j : Nat), r ≠ 484 → a_mk X c l k r j = X r j := fun X r j hr => if_neg (fun q => hr q.1)
  have e1 : ∀ i, S 358 i = S' 358 i := fun i => a1 358 i (by unfold cr; omega)
  have e2 : ∀ i, S 400 i = S' 400 i := fun i => a1 400 i (by unfold cr; omega)
  refine ⟨fun r i hr => ?_, ?_, ?_, ?_, ?_, ?_, fun j p q => ?_, fun j p => ?_⟩
  · unfold a_mk
    simp only [e1, e2, a2, a1 r i hr]
  · rw [o _ _ _ (by omega), o _ _ _ (by omega)]; exact a2
  · rw [o _ _ _ (by omega), o _ _ _ (by omega)]; exact a3
  · rw [o _ _ _ (by omega), o _ _ _ (by omega)]; exact a4
  · rw [o _ _ _ (by omega), o _ _ _ (by omega)]; exact a5
  · rw [o _ _ _ (by omega)]; exact a6
  · rw [o _ _ _ (by omega)] at q; rw [o _ _ _ (by omega), o _ _ _ (by omega)]; exact a7 j p q
  · rw [o _ _ _ (by omega), o _ _ _ (by omega)]; exact a8 j p
theorem ah_rem {q0 : Nat} {A0 B0 : Nat → Nat} {S S' : a_S} {nd f l : Nat} (h : AGM q0 A0 B0 S S') : AGM q0 A0 B0 (a_rem S nd f l) (a_rem S' nd f l) :=
  ah_o h (fun r i hr => re_o (by unfold nco cr at hr; omega)) (fun r i hr => re_o (by unfold nco cr at hr; omega))
theorem ah_used {q0 : Nat} {A0 B0 : Nat → Nat} {S S' : a_S} {c l : Nat} (h : AGM q0 A0 B0 S S') : a_used S c l = a_used S' c l := by
  have e1 : ∀ i, S 244 i = S' 244 i := fun i => h.1 244 i (by unfold cr; omega)
  unfold a_used
  simp only [e1, h.1 238 c (by unfold cr; omega)]
theorem ah_turn {q0 : Nat} {A0 B0 : Nat → Nat} {S S' : a_S} {c l : Nat} (h : AGM q0 A0 B0 S S') : a_turn S c l = a_turn S' c l := by
  have e1 : ∀ i, S 358 i = S' 358 i := fun i => h.1 358 i (by unfold cr; omega)
  have e2 : ∀ i, S 400 i = S' 400 i := fun i => h.1 400 i (by unfold cr; omega)
  unfold a_turn
  simp only [e1, e2, h.2.1]
theorem ah_forget {q0 : Nat} {A0 B0 : Nat → Nat} {S S' : a_S} {c l : Nat} (h : AGM q0 A0 B0 S S') : AGM q0 A0 B0 (a_forget S c l) (a_forget S' c l) := by
  unfold a_forget
  rw [ah_used h, h.1 238 c (by unfold cr; omega)]
  split
  · exact h
  · exact ah_shift (ah_sw h (fun _ => rfl))
theorem ah_use {q0 : Nat} {A0 B0 : Nat → Nat} {S S' : a_S} {c l : Nat} (h : AGM q0 A0 B0 S S') : AGM q0 A0 B0 (a_use S c l) (a_use S' c l) := by
  have e := ah_forget (c := c) (l := l) h
  unfold a_use
  rw [e.1 238 c (by unfold cr; omega)]
  exact ah_sw (ah_sw e (fun _ => rfl)) (fun _ => rfl)
theorem ah_does {q0 : Nat} {A0 B0 : Nat → Nat} {S S' : a_S} {c l w v : Nat} (h : AGM q0 A0 B0 S S') : AGM q0 A0 B0 (a_does S c l w v) (a_does S' c l w v) := by
  have e1 := h.1 182 (8 * c + l) (by unfold cr; omega)
  have a1 : AGM q0 A0 B0 (a_does1 S c l w v) (a_does1 S' c l w v) := by
    unfold a_does1
    rw [e1]
    split
    · exact ah_sw h (fun _ => rfl)
    · exact ah_sees h
  have a2 : AGM q0 A0 B0 (a_does2 S c l w v) (a_does2 S' c l w v) := by
    unfold a_does2
    rw [e1]
    split
    · exact ah_sw a1 (fun _ => rfl)
    · exact a1
  exact ah_use a2
theorem ah_gives {q0 : Nat} {A0 B0 : Nat → Nat} {S S' : a_S} {nd t l mn ow da : Nat} (h : AGM q0 A0 B0 S S') : AGM q0 A0 B0 (a_gives S nd t l mn ow da) (a_gives S' nd t l mn ow da) := by
  have e1 := h.1 182 (8 * nd + l) (by unfold cr; omega)
  have e2 := h.1 14 (8 * nd + l) (by unfold cr; omega)
  have a0 : AGM q0 A0 B0 (a_gives0 S nd t l mn ow da) (a_gives0 S' nd t l mn ow da) := by
    unfold a_gives0
    rw [e1, e2]
    exact ah_sw (ah_send h rfl) (fun _ => rfl)
  have a1 : AGM q0 A0 B0 (a_gives1 S nd t l mn ow da) (a_gives1 S' nd t l mn ow da) := by
    unfold a_gives1
    split
    · exact a0
    · exact ah_sw a0 (fun _ => rfl)
  have a2 : AGM q0 A0 B0 (a_gives2 S nd t l mn ow da) (a_gives2 S' nd t l mn ow da) := by
    unfold a_gives2
    exact ah_sw (ah_sw a1 (fun _ => rfl)) (fun _ => rfl)
  unfold a_gives
  rw [e2]
  split
  · split
    · exact a2
    · exact ah_forget a2
  · exact a1
theorem ah_givesAll {q0 : Nat} {A0 B0 : Nat → Nat} {S S' : a_S} {nd t l : Nat} (h : AGM q0 A0 B0 S S') : AGM q0 A0 B0 (a_givesAll S nd t l) (a_givesAll S' nd t l) := by
  unfold a_givesAll
  rw [h.1 14 (8 * nd + l) (by unfold cr; omega), h.1 70 (8 * nd + l) (by unfold cr; omega)]
  exact ah_gives h
theorem ah_settles {q0 : Nat} {A0 B0 : Nat → Nat} {S S' : a_S} {nd l : Nat} (h : AGM q0 A0 B0 S S') : AGM q0 A0 B0 (a_settles S nd l) (a_settles S' nd l) := by
  unfold a_settles
  rw [ah_turn h, h.1 14 (8 * nd + l) (by unfold cr; omega), h.1 70 (8 * nd + l) (by unfold cr; omega), h.1 442 _ (by unfold cr; omega)]
  split
  · exact h
  · split
    · exact ah_givesAll h
    · split
      · exact ah_gives h
      · split
        · exact h
        · exact ah_givesAll h
theorem ah_tells {q0 : Nat} {A0 B0 : Nat → Nat} {c k l wh : Nat} : ∀ (m to : Nat) (S S' : a_S), AGM q0 A0 B0 S S' → AGM q0 A0 B0 (a_tells c k l wh m to S) (a_tells c k l wh m to S')
  | 0, _, _, _, h => h
  | m + 1, to, S, S', h => by
    unfold a_tells
    rw [h.2.1]
    split
    · exact ah_tells m (to + 1) _ _ (ah_send h (h.1 316 _ (by unfold cr; omega)))
    · exact ah_tells m (to + 1) _ _ h
theorem ah_ends {q0 : Nat} {A0 B0 : Nat → Nat} {S S' : a_S} {c l : Nat} (h : AGM q0 A0 B0 S S') : AGM q0 A0 B0 (a_ends S c l) (a_ends S' c l) := by
  have a1 : AGM q0 A0 B0 (a_ends1 S c l) (a_ends1 S' c l) := by
    unfold a_ends1
    rw [h.1 298 c (by unfold cr; omega), h.1 304 c (by unfold cr; omega)]
    exact ah_does (ah_notes h)
  have a2 : AGM q0 A0 B0 (a_ends2 S c l) (a_ends2 S' c l) := by
    unfold a_ends2
    exact ah_sw (ah_sw (ah_sw (ah_sw a1 (fun _ => rfl)) (fun _ => rfl)) (fun _ => rfl)) (fun _ => rfl)
  have a3 : AGM q0 A0 B0 (a_ends3 S c l) (a_ends3 S' c l) := by
    unfold a_ends3
    refine ah_sw (ah_sw (ah_sw (ah_sw a2 (fun hp => ?_)) (fun hp => ?_)) (fun hp => ?_)) (fun hp => ?_)
    · exact absurd hp (by unfold cr; omega)
    · exact absurd hp (by unfold cr; omega)
    · exact absurd hp (by unfold cr; omega)
    · exact absurd hp (by unfold cr; omega)
  unfold a_ends
  rw [h.1 310 c (by unfold cr; omega)]
  split
  · unfold a_ends4
    exact ah_tells 7 0 _ _ (ah_mk (ah_sw a3 (fun _ => rfl)))
  · exact a3
theorem ah_evicts {q0 : Nat} {A0 B0 : Nat → Nat} {S S' : a_S} {c l : Nat} (h : AGM q0 A0 B0 S S') : AGM q0 A0 B0 (a_evicts S c l) (a_evicts S' c l) := by
  unfold a_evicts
  exact ah_sw (ah_givesAll (ah_notes h)) (fun hp => absurd hp (by unfold cr; omega))
theorem ah_take {q0 : Nat} {A0 B0 : Nat → Nat} {S S' : a_S} {nd l mn ow wi : Nat} (h : AGM q0 A0 B0 S S') : AGM q0 A0 B0 (a_take S nd l mn ow wi) (a_take S' nd l mn ow wi) := by
  have a1 : AGM q0 A0 B0 (a_take1 S nd l mn) (a_take1 S' nd l mn) := by
    unfold a_take1
    exact ah_sw h (fun hp => by rw [h.1 _ _ hp])
  have a2 : AGM q0 A0 B0 (a_take2 (a_take1 S nd l mn) nd l ow) (a_take2 (a_take1 S' nd l mn) nd l ow) := by
    unfold a_take2
    split
    · exact ah_sw a1 (fun _ => rfl)
    · exact a1
  unfold a_take a_take3
  split
  · exact a2
  · exact ah_sw (ah_sw a2 (fun _ => rfl)) (fun _ => rfl)
theorem ah_H {q0 : Nat} {A0 B0 : Nat → Nat} {S S' : a_S} {c l w : Nat} (h : AGM q0 A0 B0 S S') : a_H S c l w = a_H S' c l w := by
  unfold a_H
  rw [h.1 126 _ (by unfold cr; omega), h.1 14 _ (by unfold cr; omega), h.2.2.1]
theorem ah_c272 {q0 : Nat} {A0 B0 : Nat → Nat} {S S' : a_S} {nd l : Nat} (h : AGM q0 A0 B0 S S') : AGM q0 A0 B0 (a_c272 S nd l) (a_c272 S' nd l) := by
  unfold a_c272
  simp only [h.1 292 _ (by unfold cr; omega), h.1 298 _ (by unfold cr; omega), ah_H h]
  split
  · exact ah_settles (ah_ends h)
  · exact ah_settles h
theorem ah_c178 {q0 : Nat} {A0 B0 : Nat → Nat} {S S' : a_S} {nd l mn ow wi : Nat} (h : AGM q0 A0 B0 S S') : AGM q0 A0 B0 (a_c178 S nd l mn ow wi) (a_c178 S' nd l mn ow wi) := by
  unfold a_c178
  rw [h.1 14 _ (by unfold cr; omega)]
  split
  · exact ah_c272 (ah_take (ah_use h))
  · exact ah_c272 (ah_take h)
theorem ah_c82 {q0 : Nat} {A0 B0 : Nat → Nat} {S S' : a_S} {nd l mn ow wi : Nat} (h : AGM q0 A0 B0 S S') : AGM q0 A0 B0 (a_c82 S nd l mn ow wi) (a_c82 S' nd l mn ow wi) := by
  unfold a_c82 a_eld
  rw [h.1 14 _ (by unfold cr; omega), h.2.2.2.1, h.1 238 _ (by unfold cr; omega), h.1 292 _ (by unfold cr; omega), h.1 244 (8 * nd) (by unfold cr; omega), h.1 244 (8 * nd + 1) (by unfold cr; omega)]
  split
  · split
    · exact ah_c178 (ah_evicts h)
    · exact ah_send (ah_notes h) rfl
  · exact ah_c178 h
theorem ah_comes {q0 : Nat} {A0 B0 : Nat → Nat} {S S' : a_S} {nd f l mn ow wi : Nat} (h : AGM q0 A0 B0 S S') : AGM q0 A0 B0 (a_comes S nd f l mn ow wi) (a_comes S' nd f l mn ow wi) := by
  unfold a_comes
  split
  · exact ah_c272 (ah_take h)
  · exact ah_c82 (ah_rem h)
theorem ah_answers {q0 : Nat} {A0 B0 : Nat → Nat} {S S' : a_S} {nd f l w : Nat} (h : AGM q0 A0 B0 S S') : AGM q0 A0 B0 (a_answers S nd f l w) (a_answers S' nd f l w) := by
  have a1 : AGM q0 A0 B0 (a_ans1 S nd f l w) (a_ans1 S' nd f l w) := by
    unfold a_ans1
    split
    · exact ah_sw h (fun _ => rfl)
    · exact h
  have a2 : AGM q0 A0 B0 (a_ans2 S nd f l w) (a_ans2 S' nd f l w) := by
    unfold a_ans2
    split
    · exact a1
    · exact ah_sw a1 (fun hp => absurd hp (by unfold cr; omega))
  unfold a_answers a_ans3
  rw [ah_turn a2, a2.1 14 _ (by unfold cr; omega), a2.1 70 _ (by unfold cr; omega)]
  split
  · exact a2
  · split
    · exact ah_givesAll a2
    · split
      · exact ah_gives a2
      · exact a2
theorem ah_asked {q0 : Nat} {A0 B0 : Nat → Nat} {S S' : a_S} {nd f l nt wh : Nat} (h : AGM q0 A0 B0 S S') : AGM q0 A0 B0 (a_asked S nd f l nt wh) (a_asked S' nd f l nt wh) := by
  unfold a_asked
  rw [h.1 316 _ (by unfold cr; omega)]
  split
  · exact h
  · unfold a_asked1
    exact ah_settles (ah_sw (ah_sw (ah_sw (ah_sw (ah_sw h (fun _ => rfl)) (fun _ => rfl)) (fun _ => rfl)) (fun _ => rfl)) (fun _ => rfl))
theorem ah_reca {q0 : Nat} {A0 B0 : Nat → Nat} {S S' : a_S} {nd f l nt : Nat} (h : AGM q0 A0 B0 S S') : AGM q0 A0 B0 (a_reca S nd f l nt) (a_reca S' nd f l nt) := by
  unfold a_reca
  rw [h.1 316 _ (by unfold cr; omega)]
  split
  · exact h
  · unfold a_reca1
    exact ah_settles (ah_sw (ah_sw (ah_sw h (fun _ => rfl)) (fun _ => rfl)) (fun _ => rfl))
