/-! ===== what is alike stays alike ===== -/
def ag (P : Nat → Nat → Prop) (S S' : a_S) : Prop := ∀ r i, P r i → S r i = S' r i
def cor (r : Nat) : Prop := r = 14 ∨ r = 70 ∨ r = 126 ∨ r = 182 ∨ r = 238 ∨ r = 244 ∨ r = 292 ∨ r = 298 ∨ r = 304 ∨ r = 310 ∨ r = 316 ∨ r = 358 ∨ r = 400 ∨ r = 442 ∨ r = 484 ∨ r = 586
def CP (P : Nat → Nat → Prop) : Prop := (∀ r i, cor r → P r i) ∧ P 1 0 ∧ P 1 1 ∧ P 1 2 ∧ P 1 7 ∧ (∀ r i j, r ≠ 1 → P r i → P r j) ∧ (P 6736 0 → P 1 5 ∧ P 6730 0) ∧ (P 2752 0 → P 2746 0) ∧ (P 6962 0 → P 6961 0 ∧ P 1 5)
theorem ag_sw {P : Nat → Nat → Prop} {S S' : a_S} {r i v v' : Nat} (h : ag P S S') (hv : P r i → v = v') : ag P (sw S r i v) (sw S' r i v') := by
  intro x j hp
  unfold sw
  split
  · rename_i hx
    exact hv (by rw [← hx.1, ← hx.2]; exact hp)
  · exact h x j hp
theorem ag_k {P : Nat → Nat → Prop} {S S' : a_S} (hP : CP P) (h : ag P S S') (r i : Nat) (hr : cor r) : S r i = S' r i := h r i (hP.1 r i hr)
theorem ag_send {P : Nat → Nat → Prop} {S S' : a_S} {f t k l mn ow wi nt wh nt' : Nat} (hP : CP P) (h : ag P S S') (hn : nt = nt') : ag P (a_send S f t k l mn ow wi nt wh) (a_send S' f t k l mn ow wi nt' wh) := by
  subst hn
  have e7 : S 1 7 = S' 1 7 := h 1 7 hP.2.2.2.2.1
  have e5 : ∀ i, S 586 i = S' 586 i := fun i => ag_k hP h 586 i (by unfold cor; omega)
  intro x j hp
  unfold a_send
  by_cases h1 : x = 586
  · simp only [h1, if_true, e7, e5]
  · by_cases h2 : x = 1
    · subst h2
      simp only [Nat.reduceEqDiff, if_false, if_true, e7, h 1 j hp]
    · by_cases h3 : x = 6814
      · subst h3
        simp only [Nat.reduceEqDiff, if_false, if_true, h 6814 j hp]
      · simp only [h1, h2, h3, if_false]
        exact h x j hp
theorem ag_notes {P : Nat → Nat → Prop} {S S' : a_S} {w c l : Nat} (hP : CP P) (h : ag P S S') : ag P (a_notes S w c l) (a_notes S' w c l) := by
  have hu := hP.2.2.2.2.2.1
  by_cases hp : P 6962 0
  · have q := hP.2.2.2.2.2.2.2.2 hp
    have e1 : S 6961 0 = S' 6961 0 := h 6961 0 q.1
    have e2 : S 1 5 = S' 1 5 := h 1 5 q.2
    unfold a_notes
    rw [e1, e2]
    exact ag_sw (ag_sw (ag_sw (ag_sw (ag_sw h (fun _ => rfl)) (fun _ => rfl)) (fun _ => rfl)) (fun _ => rfl)) (fun _ => rfl)
  · intro x j hx
    by_cases h2 : x = 6962
    · subst h2
      exact absurd (hu 6962 j 0 (by omega) hx) hp
    · by_cases h1 : x = 6961
      · subst h1
        unfold a_notes
        by_cases hj : j = 0
        · subst hj
          rw [sw_at, sw_at, h 6961 0 hx]
        · simp (disch := omega) only [sw_r, sw_i]
          exact h 6961 j hx
      · rw [an_o ⟨h1, h2⟩, an_o ⟨h1, h2⟩]
        exact h x j hx
theorem ag_sees {P : Nat → Nat → Prop} {S S' : a_S} {c v : Nat} (hP : CP P) (h : ag P S S') : ag P (a_sees S c v) (a_sees S' c v) := by
  have hu := hP.2.2.2.2.2.1
  by_cases hp : P 2746 0
  · have e1 : S 2746 c = S' 2746 c := h 2746 c (hu 2746 0 c (by omega) hp)
    unfold a_sees
    rw [e1]
    split
    · exact h
    · exact ag_sw (ag_sw h (fun _ => rfl)) (fun _ => rfl)
  · intro x j hx
    have n1 : x ≠ 2746 := fun e => hp (hu 2746 j 0 (by omega) (by rw [← e]; exact hx))
    have n2 : x ≠ 2752 := fun e => hp (hP.2.2.2.2.2.2.2.1 (hu 2752 j 0 (by omega) (by rw [← e]; exact hx)))
    rw [asee_o ⟨n1, n2⟩, asee_o ⟨n1, n2⟩]
    exact h x j hx
theorem ag_used {P : Nat → Nat → Prop} {S S' : a_S} {c l : Nat} (hP : CP P) (h : ag P S S') : a_used S c l = a_used S' c l := by
  have e1 : ∀ i, S 244 i = S' 244 i := fun i => ag_k hP h 244 i (by unfold cor; omega)
  unfold a_used
  simp only [e1, ag_k hP h 238 c (by unfold cor; omega)]
theorem ag_turn {P : Nat → Nat → Prop} {S S' : a_S} {c l : Nat} (hP : CP P) (h : ag P S S') : a_turn S c l = a_turn S' c l := by
  have e1 : ∀ i, S 358 i = S' 358 i := fun i => ag_k hP h 358 i (by unfold cor; omega)
  have e2 : ∀ i, S 400 i = S' 400 i := fun i => ag_k hP h 400 i (by unfold cor; omega)
  unfold a_turn
  simp only [e1, e2, h 1 0 hP.2.1]
theorem ag_shift {P : Nat → Nat → Prop} {S S' : a_S} {c k U : Nat} (hP : CP P) (h : ag P S S') : ag P (a_shift S c k U) (a_shift S' c k U) := by
  have e1 : ∀ i, S 244 i = S' 244 i := fun i => ag_k hP h 244 i (by unfold cor; omega)
  intro x j hx
  unfold a_shift
  simp only [e1, h x j hx]
theorem ag_forget {P : Nat → Nat → Prop} {S S' : a_S} {c l : Nat} (hP : CP P) (h : ag P S S') : ag P (a_forget S c l) (a_forget S' c l) := by
  unfold a_forget
  rw [ag_used hP h, ag_k hP h 238 c (by unfold cor; omega)]
  split
  · exact h
  · exact ag_shift hP (ag_sw h (fun _ => rfl))
theorem ag_use {P : Nat → Nat → Prop} {S S' : a_S} {c l : Nat} (hP : CP P) (h : ag P S S') : ag P (a_use S c l) (a_use S' c l) := by
  have e := ag_forget (c := c) (l := l) hP h
  unfold a_use
  rw [ag_k hP e 238 c (by unfold cor; omega)]
  exact ag_sw (ag_sw e (fun _ => rfl)) (fun _ => rfl)
theorem ag_does {P : Nat → Nat → Prop} {S S' : a_S} {c l w v : Nat} (hP : CP P) (h : ag P S S') : ag P (a_does S c l w v) (a_does S' c l w v) := by
  have e1 := ag_k hP h 182 (8 * c + l) (by unfold cor; omega)
  have a1 : ag P (a_does1 S c l w v) (a_does1 S' c l w v) := by
    unfold a_does1
    rw [e1]
    split
    · exact ag_sw h (fun _ => rfl)
    · exact ag_sees hP h
  have a2 : ag P (a_does2 S c l w v) (a_does2 S' c l w v) := by
    unfold a_does2
    rw [e1]
    split
    · exact ag_sw a1 (fun _ => rfl)
    · exact a1
  exact ag_use hP a2
theorem ag_gives {P : Nat → Nat → Prop} {S S' : a_S} {nd t l mn ow da : Nat} (hP : CP P) (h : ag P S S') : ag P (a_gives S nd t l mn ow da) (a_gives S' nd t l mn ow da) := by
  have e1 := ag_k hP h 182 (8 * nd + l) (by unfold cor; omega)
  have e2 := ag_k hP h 14 (8 * nd + l) (by unfold cor; omega)
  have a0 : ag P (a_gives0 S nd t l mn ow da) (a_gives0 S' nd t l mn ow da) := by
    unfold a_gives0
    rw [e1, e2]
    exact ag_sw (ag_send hP h rfl) (fun _ => rfl)
  have a1 : ag P (a_gives1 S nd t l mn ow da) (a_gives1 S' nd t l mn ow da) := by
    unfold a_gives1
    split
    · exact a0
    · exact ag_sw a0 (fun _ => rfl)
  have a2 : ag P (a_gives2 S nd t l mn ow da) (a_gives2 S' nd t l mn ow da) := by
    unfold a_gives2
    exact ag_sw (ag_sw a1 (fun _ => rfl)) (fun _ => rfl)
  unfold a_gives
  rw [e2]
  split
  · split
    · exact a2
    · exact ag_forget hP a2
  · exact a1
theorem ag_givesAll {P : Nat → Nat → Prop} {S S' : a_S} {nd t l : Nat} (hP : CP P) (h : ag P S S') : ag P (a_givesAll S nd t l) (a_givesAll S' nd t l) := by
  unfold a_givesAll
  rw [ag_k hP h 14 (8 * nd + l) (by unfold cor; omega), ag_k hP h 70 (8 * nd + l) (by unfold cor; omega)]
  exact ag_gives hP h
theorem ag_settles {P : Nat → Nat → Prop} {S S' : a_S} {nd l : Nat} (hP : CP P) (h : ag P S S') : ag P (a_settles S nd l) (a_settles S' nd l) := by
  unfold a_settles
  rw [ag_turn hP h, ag_k hP h 14 (8 * nd + l) (by unfold cor; omega), ag_k hP h 70 (8 * nd + l) (by unfold cor; omega), ag_k hP h 442 _ (by unfold cor; omega)]
  split
  · exact h
  · split
    · exact ag_givesAll hP h
    · split
      · exact ag_gives hP h
      · split
        · exact h
        · exact ag_givesAll hP h
theorem ag_tells {P : Nat → Nat → Prop} {c k l wh : Nat} (hP : CP P) : ∀ (m to : Nat) (S S' : a_S), ag P S S' → ag P (a_tells c k l wh m to S) (a_tells c k l wh m to S')
  | 0, _, _, _, h => h
  | m + 1, to, S, S', h => by
    unfold a_tells
    rw [h 1 0 hP.2.1]
    split
    · exact ag_tells hP m (to + 1) _ _ (ag_send hP h (ag_k hP h 316 _ (by unfold cor; omega)))
    · exact ag_tells hP m (to + 1) _ _ h
theorem ag_mk {P : Nat → Nat → Prop} {S S' : a_S} {c l k : Nat} (hP : CP P) (h : ag P S S') : ag P (a_mk S c l k) (a_mk S' c l k) := by
  have e1 : ∀ i, S 358 i = S' 358 i := fun i => ag_k hP h 358 i (by unfold cor; omega)
  have e2 : ∀ i, S 400 i = S' 400 i := fun i => ag_k hP h 400 i (by unfold cor; omega)
  intro x j hx
  unfold a_mk
  simp only [e1, e2, h 1 0 hP.2.1, h x j hx]
theorem ag_ends {P : Nat → Nat → Prop} {S S' : a_S} {c l : Nat} (hP : CP P) (h : ag P S S') : ag P (a_ends S c l) (a_ends S' c l) := by
  have hu := hP.2.2.2.2.2.1
  have a1 : ag P (a_ends1 S c l) (a_ends1 S' c l) := by
    unfold a_ends1
    rw [ag_k hP h 298 c (by unfold cor; omega), ag_k hP h 304 c (by unfold cor; omega)]
    exact ag_does hP (ag_notes hP h)
  have a2 : ag P (a_ends2 S c l) (a_ends2 S' c l) := by
    unfold a_ends2
    exact ag_sw (ag_sw (ag_sw (ag_sw a1 (fun _ => rfl)) (fun _ => rfl)) (fun _ => rfl)) (fun _ => rfl)
  have a3 : ag P (a_ends3 S c l) (a_ends3 S' c l) := by
    have q : ∀ i, P 6736 i → S 1 5 = S' 1 5 ∧ S 6730 c = S' 6730 c := fun i hi => by
      have := hP.2.2.2.2.2.2.1 (hu 6736 i 0 (by omega) hi)
      exact ⟨h 1 5 this.1, h 6730 c (hu 6730 0 c (by omega) this.2)⟩
    unfold a_ends3
    refine ag_sw (ag_sw (ag_sw (ag_sw a2 (fun hp => ?_)) (fun hp => ?_)) (fun hp => ?_)) (fun hp => ?_)
    · rw [h 1 10 hp]
    · rw [h _ _ hp]
    · rw [h _ _ hp, (q _ hp).1, (q _ hp).2]
    · rw [h _ _ hp, (q _ hp).1, (q _ hp).2]
  unfold a_ends
  rw [ag_k hP h 310 c (by unfold cor; omega)]
  split
  · unfold a_ends4
    exact ag_tells hP 7 0 _ _ (ag_mk hP (ag_sw a3 (fun _ => rfl)))
  · exact a3
theorem ag_evicts {P : Nat → Nat → Prop} {S S' : a_S} {c l : Nat} (hP : CP P) (h : ag P S S') : ag P (a_evicts S c l) (a_evicts S' c l) := by
  unfold a_evicts
  exact ag_sw (ag_givesAll hP (ag_notes hP h)) (fun hp => by rw [h 1 12 hp])
theorem ag_take {P : Nat → Nat → Prop} {S S' : a_S} {nd l mn ow wi : Nat} (hP : CP P) (h : ag P S S') : ag P (a_take S nd l mn ow wi) (a_take S' nd l mn ow wi) := by
  have a1 : ag P (a_take1 S nd l mn) (a_take1 S' nd l mn) := by
    unfold a_take1
    exact ag_sw h (fun hp => by rw [h _ _ hp])
  have a2 : ag P (a_take2 (a_take1 S nd l mn) nd l ow) (a_take2 (a_take1 S' nd l mn) nd l ow) := by
    unfold a_take2
    split
    · exact ag_sw a1 (fun _ => rfl)
    · exact a1
  unfold a_take a_take3
  split
  · exact a2
  · exact ag_sw (ag_sw a2 (fun _ => rfl)) (fun _ => rfl)
theorem ag_H {P : Nat → Nat → Prop} {S S' : a_S} {c l w : Nat} (hP : CP P) (h : ag P S S') : a_H S c l w = a_H S' c l w := by
  unfold a_H
  rw [ag_k hP h 126 _ (by unfold cor; omega), ag_k hP h 14 _ (by unfold cor; omega), h 1 1 hP.2.2.1]
theorem ag_c272 {P : Nat → Nat → Prop} {S S' : a_S} {nd l : Nat} (hP : CP P) (h : ag P S S') : ag P (a_c272 S nd l) (a_c272 S' nd l) := by
  unfold a_c272
  simp only [ag_k hP h 292 _ (by unfold cor; omega), ag_k hP h 298 _ (by unfold cor; omega), ag_H hP h]
  split
  · exact ag_settles hP (ag_ends hP h)
  · exact ag_settles hP h
theorem ag_c178 {P : Nat → Nat → Prop} {S S' : a_S} {nd l mn ow wi : Nat} (hP : CP P) (h : ag P S S') : ag P (a_c178 S nd l mn ow wi) (a_c178 S' nd l mn ow wi) := by
  unfold a_c178
  rw [ag_k hP h 14 _ (by unfold cor; omega)]
  split
  · exact ag_c272 hP (ag_take hP (ag_use hP h))
  · exact ag_c272 hP (ag_take hP h)
theorem ag_c82 {P : Nat → Nat → Prop} {S S' : a_S} {nd l mn ow wi : Nat} (hP : CP P) (h : ag P S S') : ag P (a_c82 S nd l mn ow wi) (a_c82 S' nd l mn ow wi) := by
  unfold a_c82 a_eld
  rw [ag_k hP h 14 _ (by unfold cor; omega), h 1 2 hP.2.2.2.1, ag_k hP h 238 _ (by unfold cor; omega), ag_k hP h 292 _ (by unfold cor; omega), ag_k hP h 244 (8 * nd) (by unfold cor; omega), ag_k hP h 244 (8 * nd + 1) (by unfold cor; omega)]
  split
  · split
    · exact ag_c178 hP (ag_evicts hP h)
    · exact ag_send hP (ag_notes hP h) rfl
  · exact ag_c178 hP h
theorem ag_rem {P : Nat → Nat → Prop} {S S' : a_S} {nd f l : Nat} (h : ag P S S') : ag P (a_rem S nd f l) (a_rem S' nd f l) := by
  unfold a_rem
  split
  · exact ag_sw h (fun _ => rfl)
  · exact ag_sw (ag_sw h (fun _ => rfl)) (fun hp => by rw [h _ _ hp])
theorem ag_comes {P : Nat → Nat → Prop} {S S' : a_S} {nd f l mn ow wi : Nat} (hP : CP P) (h : ag P S S') : ag P (a_comes S nd f l mn ow wi) (a_comes S' nd f l mn ow wi) := by
  unfold a_comes
  split
  · exact ag_c272 hP (ag_take hP h)
  · exact ag_c82 hP (ag_rem h)
theorem ag_answers {P : Nat → Nat → Prop} {S S' : a_S} {nd f l w : Nat} (hP : CP P) (h : ag P S S') : ag P (a_answers S nd f l w) (a_answers S' nd f l w) := by
  have a1 : ag P (a_ans1 S nd f l w) (a_ans1 S' nd f l w) := by
    unfold a_ans1
    split
    · exact ag_sw h (fun _ => rfl)
    · exact h
  have a2 : ag P (a_ans2 S nd f l w) (a_ans2 S' nd f l w) := by
    unfold a_ans2
    split
    · exact a1
    · exact ag_sw a1 (fun hp => by rw [h _ _ hp])
  unfold a_answers a_ans3
  rw [ag_turn hP a2, ag_k hP a2 14 _ (by unfold cor; omega), ag_k hP a2 70 _ (by unfold cor; omega)]
  split
  · exact a2
  · split
    · exact ag_givesAll hP a2
    · split
      · exact ag_gives hP a2
      · exact a2
theorem ag_asked {P : Nat → Nat → Prop} {S S' : a_S} {nd f l nt wh : Nat} (hP : CP P) (h : ag P S S') : ag P (a_asked S nd f l nt wh) (a_asked S' nd f l nt wh) := by
  unfold a_asked
  rw [ag_k hP h 316 _ (by unfold cor; omega)]
  split
  · exact h
  · unfold a_asked1
    exact ag_settles hP (ag_sw (ag_sw (ag_sw (ag_sw (ag_sw h (fun _ => rfl)) (fun _ => rfl)) (fun _ => rfl)) (fun _ => rfl)) (fun _ => rfl))
theorem ag_reca {P : Nat → Nat → Prop} {S S' : a_S} {nd f l nt : Nat} (hP : CP P) (h : ag P S S') : ag P (a_reca S nd f l nt) (a_reca S' nd f l nt) := by
  unfold a_reca
  rw [ag_k hP h 316 _ (by unfold cor; omega)]
  split
  · exact h
  · unfold a_reca1
    exact ag_settles hP (ag_sw (ag_sw (ag_sw h (fun _ => rfl)) (fun _ => rfl)) (fun _ => rfl))
theorem ag_rm {P : Nat → Nat → Prop} {S S' : a_S} {i : Nat} (hP : CP P) (h : ag P S S') : ag P (a_rm S i) (a_rm S' i) := by
  have e7 : S 1 7 = S' 1 7 := h 1 7 hP.2.2.2.2.1
  have e5 : ∀ i, S 586 i = S' 586 i := fun i => ag_k hP h 586 i (by unfold cor; omega)
  intro x j hx
  by_cases h1 : x = 586
  · unfold a_rm
    simp only [h1, if_true, e7, e5]
  · by_cases h2 : x = 1
    · subst h2
      unfold a_rm
      simp only [Nat.reduceEqDiff, if_false, if_true, e7]
      by_cases j13 : j = 13
      · subst j13
        rw [h 1 13 hx]
      · simp only [j13, if_false, h 1 j hx]
    · rw [rm_q ⟨h1, h2⟩, rm_q ⟨h1, h2⟩]
      exact h x j hx
theorem ag_del {P : Nat → Nat → Prop} {S S' : a_S} {i : Nat} (hP : CP P) (h : ag P S S') : ag P (a_del S i) (a_del S' i) := by
  have e5 : ∀ i, S 586 i = S' 586 i := fun i => ag_k hP h 586 i (by unfold cor; omega)
  have a1 := ag_rm (i := i) hP h
  unfold a_del
  simp only [e5]
  split
  · exact ag_answers hP a1
  · split
    · exact ag_answers hP a1
    · split
      · exact ag_comes hP a1
      · split
        · exact ag_asked hP a1
        · exact ag_reca hP a1
/-- notes apart -/
def pn (r _i : Nat) : Prop := r ≠ 6961 ∧ r ≠ 6962
theorem CP_pn : CP pn := by
  refine ⟨fun r i h => ?_, ⟨by omega, by omega⟩, ⟨by omega, by omega⟩, ⟨by omega, by omega⟩, ⟨by omega, by omega⟩, fun r i j _ h => h, fun _ => ⟨⟨by omega, by omega⟩, ⟨by omega, by omega⟩⟩, fun _ => ⟨by omega, by omega⟩, fun h => absurd rfl h.2⟩
  unfold cor at h
  exact ⟨by omega, by omega⟩
theorem ag_pn {S : a_S} {w c l : Nat} : ag pn (a_notes S w c l) S := fun r i h => an_o h
theorem an_comm {F : a_S → a_S} {S : a_S} {w c l : Nat} (hF : ∀ A B, ag pn A B → ag pn (F A) (F B)) (h1 : ∀ A i, F A 6961 i = A 6961 i) (h2 : ∀ A i, F A 6962 i = A 6962 i) (h5 : F S 1 5 = S 1 5) : F (a_notes S w c l) = a_notes (F S) w c l := by
  funext r i
  by_cases hr1 : r = 6961
  · subst hr1
    rw [h1]
    unfold a_notes
    by_cases hi : i = 0
    · subst hi
      rw [sw_at, sw_at, h1]
    · simp (disch := omega) only [sw_i, sw_r]
      rw [h1]
  · by_cases hr2 : r = 6962
    · subst hr2
      rw [h2]
      unfold a_notes
      rw [h1, h5]
      unfold sw
      simp only [h2]
    · rw [an_o ⟨hr1, hr2⟩]
      exact hF _ _ ag_pn r i ⟨hr1, hr2⟩
