/-! ===== alike in what is there: like answers ===== -/
def PEQ (S T : a_S) : Prop := (∀ r x, PRS (S 1 0) r x → S r x = T r x) ∧ S 1 0 = T 1 0 ∧ S 1 1 = T 1 1 ∧ S 1 2 = T 1 2 ∧ S 1 7 = T 1 7 ∧ ∀ φ, gp φ → mq S φ = mq T φ
theorem PEQ_s {S T : a_S} (h : PEQ S T) : PEQ T S := ⟨fun r x a => (h.1 r x (by rw [h.2.1]; exact a)).symm, h.2.1.symm, h.2.2.1.symm, h.2.2.2.1.symm, h.2.2.2.2.1.symm, fun φ a => (h.2.2.2.2.2 φ a).symm⟩
theorem PEQ_t {S T U : a_S} (h : PEQ S T) (h2 : PEQ T U) : PEQ S U := ⟨fun r x a => (h.1 r x a).trans (h2.1 r x (by rw [← h.2.1]; exact a)), h.2.1.trans h2.2.1, h.2.2.1.trans h2.2.2.1, h.2.2.2.1.trans h2.2.2.2.1, h.2.2.2.2.1.trans h2.2.2.2.2.1, fun φ a => (h.2.2.2.2.2 φ a).trans (h2.2.2.2.2.2 φ a)⟩
theorem PEQ_k {S T : a_S} (h : KEQ S T) : PEQ S T := ⟨fun r x a => h.1 r x (PRS_cr a), h.2⟩
theorem KEQ_p {S0 S T : a_S} (hS : NOD S0 S) (hT : NOD S0 T) (h : PEQ S T) : KEQ S T := by
  refine ⟨fun r x hr => ?_, h.2⟩
  by_cases c : PRS (S0 1 0) r x
  · exact h.1 r x (by rw [hS.2.1.1]; exact c)
  · rw [hS.2.2 r x hr c, hT.2.2 r x hr c]
theorem PEQ_del {S T : a_S} {i k : Nat} (hi : INV S z0) (h : PEQ S T) (hlt : i < S 1 7) (hk : k < T 1 7) (hm : ∀ j, j < 9 → S 586 (9 * i + j) = T 586 (9 * k + j)) : PEQ (a_del S i) (a_del T k) := by
  obtain ⟨h1, h2, h3, h4, h5, h6⟩ := h
  obtain ⟨a1, a2, a2', a3, a4, a5, a6, a7, a8⟩ := ap_del hi h1 h2 h3 h4 h5 hlt hm
  refine ⟨by rw [a2]; exact a1, by rw [a2, a2'], a3, a4, a5, fun φ hφ => ?_⟩
  have e1 := mq_rm hφ hlt
  have e2 := mq_rm hφ hk
  have e3 : φ (fd S i) = φ (fd T k) := hφ _ _ hm
  have e4 := h6 φ hφ
  have key : mq (a_del S i) φ + mq (a_rm T k) φ = mq (a_del T k) φ + mq (a_rm S i) φ := by
    unfold mq
    rw [rm_7, rm_7, ← a5, ← h5]
    refine sm_two (m := S 1 7 - 1) (a_del S i 1 7) a6 (fun q hq => ⟨hφ _ _ (fun j hj => ?_), hφ _ _ (fun j hj => ?_)⟩) (fun q h1 h2 => hφ _ _ (fun j hj => ?_))
    · exact (a8 (9 * q + j) (by omega)).1
    · exact (a8 (9 * q + j) (by omega)).2
    · exact a7 (9 * q + j) (by omega) (by omega)
  omega
theorem PEQ_find {S T : a_S} {i : Nat} (h : PEQ S T) (hi : i < S 1 7) : ∃ k, k < T 1 7 ∧ ∀ j, j < 9 → S 586 (9 * i + j) = T 586 (9 * k + j) := by
  have e1 := mq_in (S := S) (i := i) (gp_we (fd S i)) hi
  have e2 : we (fd S i) (fd S i) = 1 := if_pos ⟨rfl, rfl, rfl, rfl, rfl, rfl, rfl, rfl, rfl⟩
  have e3 := h.2.2.2.2.2 _ (gp_we (fd S i))
  obtain ⟨k, hk, hk2⟩ := sm_pos (g := fun q => we (fd S i) (fd T q)) (T 1 7) (by
    have : mq T (we (fd S i)) = sm (fun q => we (fd S i) (fd T q)) (T 1 7) := rfl
    omega)
  refine ⟨k, hk, ?_⟩
  have hk3 : we (fd S i) (fd T k) ≠ 0 := hk2
  unfold we at hk3
  by_cases c : fd T k 0 = fd S i 0 ∧ fd T k 1 = fd S i 1 ∧ fd T k 2 = fd S i 2 ∧ fd T k 3 = fd S i 3 ∧ fd T k 4 = fd S i 4 ∧ fd T k 5 = fd S i 5 ∧ fd T k 6 = fd S i 6 ∧ fd T k 7 = fd S i 7 ∧ fd T k 8 = fd S i 8
  · intro j hj
    have hj9 : j = 0 ∨ j = 1 ∨ j = 2 ∨ j = 3 ∨ j = 4 ∨ j = 5 ∨ j = 6 ∨ j = 7 ∨ j = 8 := by omega
    obtain ⟨c0, c1, c2, c3, c4, c5, c6, c7, c8⟩ := c
    rcases hj9 with rfl | rfl | rfl | rfl | rfl | rfl | rfl | rfl | rfl
    · exact c0.symm
    · exact c1.symm
    · exact c2.symm
    · exact c3.symm
    · exact c4.symm
    · exact c5.symm
    · exact c6.symm
    · exact c7.symm
    · exact c8.symm
  · rw [if_neg c] at hk3
    exact absurd rfl hk3
theorem PEQ_suc {S T : a_S} {i : Nat} (hS : INV S z0) (h : PEQ S T) (hi : i < S 1 7) : ∃ k, k < T 1 7 ∧ PEQ (a_del S i) (a_del T k) := by
  obtain ⟨k, hk, hm⟩ := PEQ_find h hi
  exact ⟨k, hk, PEQ_del hS h hi hk hm⟩
/-- a search whose states are nodes -/
def GRN (S0 : a_S) (n : Nat) (κ : Nat → a_S) (d : Nat → Nat) (E : Nat → Nat → Prop) : Prop := GR S0 n κ d E ∧ ∀ s, s < n → NOD S0 (κ s)
theorem GR_one {S0 : a_S} {n : Nat} {κ : Nat → a_S} {d : Nat → Nat} {E : Nat → Nat → Prop} (h : GRN S0 n κ d E) {s t : Nat} (hs : s < n) (ht : t < n) (hp : PEQ (κ s) (κ t)) : s = t := h.1.2.2.2.1 s t hs ht (KEQ_p (h.2 s hs) (h.2 t ht) hp)
theorem GR_into {S0 T0 : a_S} {n n' : Nat} {κ κ' : Nat → a_S} {d d' : Nat → Nat} {E E' : Nat → Nat → Prop} (h : GRN S0 n κ d E) (h' : GRN T0 n' κ' d' E') (h0 : PEQ S0 T0) : ∀ s, s < n → ∃ s', s' < n' ∧ PEQ (κ s) (κ' s') ∧ d' s' ≤ d s := by
  intro s
  induction s using Nat.strongRecOn with
  | _ s ih =>
    intro hs
    by_cases c : s = 0
    · subst c
      refine ⟨0, h'.1.1, PEQ_t (PEQ_t (PEQ_k h.1.2.1) h0) (PEQ_s (PEQ_k h'.1.2.1)), ?_⟩
      rw [h'.1.2.2.1]
      exact Nat.zero_le _
    · obtain ⟨p, hp, hE, hd⟩ := h.1.2.2.2.2.2.2.1 s (by omega) hs
      obtain ⟨p', hp', hk, hd'⟩ := ih p hp (by omega)
      obtain ⟨hp1, _, i, hi, hi2⟩ := h.1.2.2.2.2.2.1 p s hE
      obtain ⟨k, hk1, hk2⟩ := PEQ_suc (h.2 p hp1).1 hk hi
      obtain ⟨t, ht, hE', ht2⟩ := h'.1.2.2.2.2.1 p' k hp' hk1
      refine ⟨t, ht, PEQ_t (PEQ_s (PEQ_k hi2)) (PEQ_t hk2 (PEQ_k ht2)), ?_⟩
      have := h'.1.2.2.2.2.2.2.2 p' t hE'
      omega
theorem GR_d {S0 T0 : a_S} {n n' : Nat} {κ κ' : Nat → a_S} {d d' : Nat → Nat} {E E' : Nat → Nat → Prop} (h : GRN S0 n κ d E) (h' : GRN T0 n' κ' d' E') (h0 : PEQ S0 T0) {s s' : Nat} (hs : s < n) (hs' : s' < n') (hk : PEQ (κ s) (κ' s')) : d s = d' s' := by
  obtain ⟨t', a1, a2, a3⟩ := GR_into h h' h0 s hs
  obtain ⟨t, b1, b2, b3⟩ := GR_into h' h (PEQ_s h0) s' hs'
  have e1 : t' = s' := GR_one h' a1 hs' (PEQ_t (PEQ_s a2) hk)
  have e2 : t = s := GR_one h b1 hs (PEQ_t (PEQ_s b2) (PEQ_s hk))
  subst e1
  subst e2
  omega
theorem GR_E {S0 T0 : a_S} {n n' : Nat} {κ κ' : Nat → a_S} {d d' : Nat → Nat} {E E' : Nat → Nat → Prop} (h : GRN S0 n κ d E) (h' : GRN T0 n' κ' d' E') {s s' t t' : Nat} (hs : s' < n') (ht : t' < n') (hk : PEQ (κ s) (κ' s')) (hl : PEQ (κ t) (κ' t')) (hE : E s t) : E' s' t' := by
  obtain ⟨hs0, _, i, hi, hi2⟩ := h.1.2.2.2.2.2.1 s t hE
  obtain ⟨k, hk1, hk2⟩ := PEQ_suc (h.2 s hs0).1 hk hi
  obtain ⟨u, hu, hE', hu2⟩ := h'.1.2.2.2.2.1 s' k hs hk1
  have : u = t' := GR_one h' hu ht (PEQ_t (PEQ_s (PEQ_k hu2)) (PEQ_t (PEQ_s hk2) (PEQ_t (PEQ_k hi2) hl)))
  rw [← this]
  exact hE'
theorem GR_sm {S0 T0 : a_S} {n n' : Nat} {κ κ' : Nat → a_S} {d d' : Nat → Nat} {E E' : Nat → Nat → Prop} (h : GRN S0 n κ d E) (h' : GRN T0 n' κ' d' E') (h0 : PEQ S0 T0) (w : a_S → Nat) (hw : ∀ S T, PEQ S T → w S = w T) : sm (fun s => w (κ s)) n = sm (fun s => w (κ' s)) n' := by
  have le : ∀ {S0 T0 : a_S} {n n' : Nat} {κ κ' : Nat → a_S} {d d' : Nat → Nat} {E E' : Nat → Nat → Prop}, GRN S0 n κ d E → GRN T0 n' κ' d' E' → PEQ S0 T0 → sm (fun s => w (κ s)) n ≤ sm (fun s => w (κ' s)) n' := by
    intro S0 T0 n n' κ κ' d d' E E' h h' h0
    refine sm_inj (R := fun s s' => PEQ (κ s) (κ' s')) n _ _ (fun s hs => ?_) (fun s t s' a b c d => GR_one h a b (PEQ_t c (PEQ_s d)))
    obtain ⟨s', a1, a2, _⟩ := GR_into h h' h0 s hs
    exact ⟨s', a1, a2, Nat.le_of_eq (hw _ _ a2)⟩
  exact Nat.le_antisymm (le h h' h0) (le h' h (PEQ_s h0))
theorem GR_cyc {S0 T0 : a_S} {n n' : Nat} {κ κ' : Nat → a_S} {d d' : Nat → Nat} {E E' : Nat → Nat → Prop} (h : GRN S0 n κ d E) (h' : GRN T0 n' κ' d' E') (h0 : PEQ S0 T0) (hc : SCL n E) : SCL n' E' := by
  obtain ⟨X, ⟨x, x1, x2⟩, hX⟩ := hc
  obtain ⟨x', a1, a2, _⟩ := GR_into h h' h0 x x1
  refine ⟨fun y => ∃ z, z < n ∧ X z ∧ PEQ (κ z) (κ' y), ⟨x', a1, x, x1, x2, a2⟩, fun y hy hY => ?_⟩
  obtain ⟨z, z1, z2, z3⟩ := hY
  obtain ⟨w, w1, w2, w3⟩ := hX z z1 z2
  obtain ⟨w', b1, b2, _⟩ := GR_into h h' h0 w w1
  exact ⟨w', b1, ⟨w, w1, w2, b2⟩, GR_E h h' hy b1 z3 b2 w3⟩
theorem qui_k {S T : a_S} (h : PEQ S T) : qui S = qui T := by
  unfold qui
  rw [h.2.2.2.2.1]
theorem qmi_k {S T : a_S} (h : PEQ S T) : qmi S = qmi T := by
  have e : fr (fun c => S 292 c ≠ 0) (S 1 0) 0 = fr (fun c => T 292 c ≠ 0) (T 1 0) 0 := by
    rw [← h.2.1]
    exact fr_c _ _ (fun j h1 h2 => by rw [h.1 292 j (by unfold PRS; omega)])
  unfold qmi
  rw [e, h.2.2.2.2.1]
theorem TMU_no {S S' : a_S} {n : Nat} {κ : Nat → a_S} {d : Nat → Nat} {E : Nat → Nat → Prop} (hT : TMU S') (h : GRN S n κ d E) (hn : n ≤ 250) (h24 : ∀ s, s < n → κ s 1 7 ≤ 24) (h0 : PEQ S S') : False := by
  have key : ∀ T, RCH S' T → ∃ s, s < n ∧ PEQ T (κ s) := by
    intro T hT
    refine hT.2 (fun T => ∃ s, s < n ∧ PEQ T (κ s)) (fun U hU _ => ⟨0, h.1.1, PEQ_t (PEQ_k hU) (PEQ_t (PEQ_s h0) (PEQ_s (PEQ_k h.1.2.1)))⟩) (fun U V i hU hN hi hV _ => ?_)
    obtain ⟨s, hs, hk⟩ := hU
    obtain ⟨k, hk1, hk2⟩ := PEQ_suc hN.1 hk hi
    obtain ⟨t, ht, _, ht2⟩ := h.1.2.2.2.2.1 s k hs hk1
    exact ⟨t, ht, PEQ_t (PEQ_s (PEQ_k hV)) (PEQ_t hk2 (PEQ_k ht2))⟩
  rcases hT with ⟨T, h1, h2⟩ | ⟨κ', h1, h2⟩
  · obtain ⟨s, hs, hk⟩ := key T h1
    have := h24 s hs
    have := hk.2.2.2.2.1
    omega
  · have := sm_inj (R := fun s s' => PEQ (κ' s) (κ s')) (n' := n) 251 (fun _ => 1) (fun _ => 1) (fun s hs => by
      obtain ⟨t, ht, hk⟩ := key (κ' s) (h1 s hs)
      exact ⟨t, ht, hk, Nat.le_refl _⟩) (fun s t s' a b c d => by
      apply Classical.byContradiction
      intro hne
      by_cases q : s < t
      · exact h2 s t q b (KEQ_p (h1 s a).1 (h1 t b).1 (PEQ_t c (PEQ_s d)))
      · exact h2 t s (by omega) a (KEQ_p (h1 t b).1 (h1 s a).1 (PEQ_t d (PEQ_s c))))
    rw [sm_1, sm_1] at this
    omega
theorem WANS_u {S S' : a_S} {a a' : Nat → Int32} (h : WANS S a) (h' : WANS S' a') (h0 : PEQ S S') : ∀ j, j < 5 → a j = a' j := by
  rcases h with ⟨t, h⟩ | ⟨n, κ, d, E, g0, gn, g1, g2, b0, b1, b2, b3, b4⟩ <;> rcases h' with ⟨t', h'⟩ | ⟨n', κ', d', E', g0', gn', g1', g2', b0', b1', b2', b3', b4'⟩
  · intro j hj
    rw [h j hj, h' j hj]
  · exact (TMU_no t ⟨g0', gn'⟩ g1' g2' (PEQ_s h0)).elim
  · exact (TMU_no t' ⟨g0, gn⟩ g1 g2 h0).elim
  · have g : GRN S n κ d E := ⟨g0, gn⟩
    have g' : GRN S' n' κ' d' E' := ⟨g0', gn'⟩
    have en : n = n' := by
      have := GR_sm g g' h0 (fun _ => 1) (fun _ _ _ => rfl)
      rw [sm_1, sm_1] at this
      exact this
    have e1 := GR_sm g g' h0 qui (fun _ _ h => qui_k h)
    have e2 := GR_sm g g' h0 qmi (fun _ _ h => qmi_k h)
    have e3 : a 3 = a' 3 := by
      rcases b3 with ⟨v, q⟩ | ⟨s, s1, s2, s3, s4⟩ <;> rcases b3' with ⟨v', q'⟩ | ⟨s', s1', s2', s3', s4'⟩
      · rw [v, v']
      · obtain ⟨t, t1, t2, _⟩ := GR_into g' g (PEQ_s h0) s' s1'
        exact absurd (by rw [← t2.2.2.2.2.1]; exact s2') (q t t1)
      · obtain ⟨t, t1, t2, _⟩ := GR_into g g' h0 s s1
        exact absurd (by rw [← t2.2.2.2.2.1]; exact s2) (q' t t1)
      · obtain ⟨t, t1, t2, _⟩ := GR_into g g' h0 s s1
        obtain ⟨u, u1, u2, _⟩ := GR_into g' g (PEQ_s h0) s' s1'
        have w1 := GR_d g g' h0 s1 t1 t2
        have w2 := GR_d g' g (PEQ_s h0) s1' u1 u2
        have w3 := s4 u u1 (by rw [← u2.2.2.2.2.1]; exact s2')
        have w4 := s4' t t1 (by rw [← t2.2.2.2.2.1]; exact s2)
        rw [s3, s3', show d s = d' s' by omega]
    have e4 : a 4 = a' 4 := by
      rcases b4 with ⟨c, v⟩ | ⟨c, v⟩ <;> rcases b4' with ⟨c', v'⟩ | ⟨c', v'⟩
      · rw [v, v']
      · exact absurd (GR_cyc g g' h0 c) c'
      · exact absurd (GR_cyc g' g (PEQ_s h0) c') c
      · rw [v, v']
    intro j hj
    have hj5 : j = 0 ∨ j = 1 ∨ j = 2 ∨ j = 3 ∨ j = 4 := by omega
    rcases hj5 with rfl | rfl | rfl | rfl | rfl
    · rw [b0, b0', en]
    · rw [b1, b1', e1]
    · rw [b2, b2', e2]
    · exact e3
    · exact e4
