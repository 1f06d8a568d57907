/-! ===== one state of a walk: the core, and the messages in whatever order ===== -/
def KEQ (S T : a_S) : Prop := (∀ r x, cr r → S r x = T r x) ∧ S 1 0 = T 1 0 ∧ S 1 1 = T 1 1 ∧ S 1 2 = T 1 2 ∧ S 1 7 = T 1 7 ∧ ∀ φ, gp φ → mq S φ = mq T φ
theorem KEQ_r {S : a_S} : KEQ S S := ⟨fun _ _ _ => rfl, rfl, rfl, rfl, rfl, fun _ _ => rfl⟩
theorem KEQ_s {S T : a_S} (h : KEQ S T) : KEQ T S := ⟨fun r x a => (h.1 r x a).symm, h.2.1.symm, h.2.2.1.symm, h.2.2.2.1.symm, h.2.2.2.2.1.symm, fun φ a => (h.2.2.2.2.2 φ a).symm⟩
theorem KEQ_t {S T U : a_S} (h : KEQ S T) (h2 : KEQ T U) : KEQ S U := ⟨fun r x a => (h.1 r x a).trans (h2.1 r x a), h.2.1.trans h2.2.1, h.2.2.1.trans h2.2.2.1, h.2.2.2.1.trans h2.2.2.2.1, h.2.2.2.2.1.trans h2.2.2.2.2.1, fun φ a => (h.2.2.2.2.2 φ a).trans (h2.2.2.2.2.2 φ a)⟩
theorem sm_two {f f' g g' : Nat → Nat} {m : Nat} : ∀ (n : Nat), m ≤ n → (∀ i, i < m → f i = g i ∧ f' i = g' i) → (∀ i, m ≤ i → i < n → f i = f' i) → sm f n + sm g' m = sm f' n + sm g m
  | 0, h, a, b => by
    have : m = 0 := by omega
    subst this
    rfl
  | n + 1, h, a, b => by
    by_cases c : m = n + 1
    · subst c
      rw [sm_c (g' := g) (n + 1) (fun i hi => (a i hi).1), sm_c (g := f') (g' := g') (n + 1) (fun i hi => (a i hi).2)]
      omega
    · have e := sm_two n (by omega) a (fun i h1 h2 => b i h1 (by omega))
      have e2 := b n (by omega) (by omega)
      rw [sm_s, sm_s]
      omega
theorem KEQ_del {S T : a_S} {i k : Nat} (h : KEQ S T) (hi : i < S 1 7) (hk : k < T 1 7) (hm : ∀ j, j < 9 → S 586 (9 * i + j) = T 586 (9 * k + j)) : KEQ (a_del S i) (a_del T k) := by
  obtain ⟨h1, h2, h3, h4, h5, h6⟩ := h
  obtain ⟨a1, a2, a3, a4, a5, a6, a7, a8⟩ := ah_del h1 h2 h3 h4 h5 hm
  refine ⟨a1, a2, a3, a4, a5, fun φ hφ => ?_⟩
  have e1 := mq_rm hφ hi
  have e2 := mq_rm hφ hk
  have e3 : φ (fd S i) = φ (fd T k) := hφ _ _ hm
  have e4 := h6 φ hφ
  have e5 : sm (fun i => φ (fd (a_del S i) i)) 0 = 0 := rfl
  have key : mq (a_del S i) φ + mq (a_rm T k) φ = mq (a_del T k) φ + mq (a_rm S i) φ := by
    unfold mq
    rw [rm_7, rm_7, ← a5, ← h5]
    refine sm_two (m := S 1 7 - 1) (a_del S i 1 7) a6 (fun q hq => ⟨hφ _ _ (fun j hj => ?_), hφ _ _ (fun j hj => ?_)⟩) (fun q h1 h2 => hφ _ _ (fun j hj => ?_))
    · exact (a8 (9 * q + j) (by omega)).1
    · exact (a8 (9 * q + j) (by omega)).2
    · exact a7 (9 * q + j) (by omega) (by omega)
  omega
def we (a g : Nat → Nat) : Nat := if g 0 = a 0 ∧ g 1 = a 1 ∧ g 2 = a 2 ∧ g 3 = a 3 ∧ g 4 = a 4 ∧ g 5 = a 5 ∧ g 6 = a 6 ∧ g 7 = a 7 ∧ g 8 = a 8 then 1 else 0
theorem gp_we (a : Nat → Nat) : gp (we a) := by
  intro g g' h
  unfold we
  rw [h 0 (by omega), h 1 (by omega), h 2 (by omega), h 3 (by omega), h 4 (by omega), h 5 (by omega), h 6 (by omega), h 7 (by omega), h 8 (by omega)]
theorem sm_pos {g : Nat → Nat} : ∀ (n : Nat), sm g n ≠ 0 → ∃ i, i < n ∧ g i ≠ 0
  | 0, h => absurd rfl h
  | n + 1, h => by
    by_cases c : g n = 0
    · rw [sm_s, c, Nat.add_zero] at h
      obtain ⟨i, h1, h2⟩ := sm_pos n h
      exact ⟨i, by omega, h2⟩
    · exact ⟨n, by omega, c⟩
theorem KEQ_find {S T : a_S} {i : Nat} (h : KEQ S T) (hi : i < S 1 7) : ∃ k, k < T 1 7 ∧ ∀ j, j < 9 → S 586 (9 * i + j) = T 586 (9 * k + j) := by
  have e1 := mq_in (S := S) (i := i) (gp_we (fd S i)) hi
  have e2 : we (fd S i) (fd S i) = 1 := if_pos ⟨rfl, rfl, rfl, rfl, rfl, rfl, rfl, rfl, rfl⟩
  have e3 := h.2.2.2.2.2 _ (gp_we (fd S i))
  obtain ⟨k, hk, hk2⟩ := sm_pos (g := fun q => we (fd S i) (fd T q)) (T 1 7) (by
    have : mq T (we (fd S i)) = sm (fun q => we (fd S i) (fd T q)) (T 1 7) := rfl
    omega)
  refine ⟨k, hk, ?_⟩
  have hk3 : we (fd S i) (fd T k) ≠ 0 := hk2
  unfold we at hk3
  by_cases c : fd T k 0 = fd S i 0 ∧ fd T k 1 = fd S i 1 ∧ fd T k 2 = fd S i 2 ∧ fd T k 3 = fd S i 3 ∧ fd T k 4 = fd S i 4 ∧ fd T k 5 = fd S i 5 ∧ fd T k 6 = fd S i 6 ∧ fd T k 7 = fd S i 7 ∧ fd T k 8 = fd S i 8
  · intro j hj
    have hj9 : j = 0 ∨ j = 1 ∨ j = 2 ∨ j = 3 ∨ j = 4 ∨ j = 5 ∨ j = 6 ∨ j = 7 ∨ j = 8 := by omega
    obtain ⟨c0, c1, c2, c3, c4, c5, c6, c7, c8⟩ := c
    rcases hj9 with rfl | rfl | rfl | rfl | rfl | rfl | rfl | rfl | rfl
    · exact c0.symm
    · exact c1.symm
    · exact c2.symm
    · exact c3.symm
    · exact c4.symm
    · exact c5.symm
    · exact c6.symm
    · exact c7.symm
    · exact c8.symm
  · rw [if_neg c] at hk3
    exact absurd rfl hk3
theorem KEQ_suc {S T : a_S} {i : Nat} (h : KEQ S T) (hi : i < S 1 7) : ∃ k, k < T 1 7 ∧ KEQ (a_del S i) (a_del T k) := by
  obtain ⟨k, hk, hm⟩ := KEQ_find h hi
  exact ⟨k, hk, KEQ_del h hi hk hm⟩
/-! ===== what a search must find ===== -/
def GR (S0 : a_S) (n : Nat) (κ : Nat → a_S) (d : Nat → Nat) (E : Nat → Nat → Prop) : Prop :=
  0 < n ∧ KEQ (κ 0) S0 ∧ d 0 = 0 ∧ (∀ s t, s < n → t < n → KEQ (κ s) (κ t) → s = t) ∧ (∀ s i, s < n → i < κ s 1 7 → ∃ t, t < n ∧ E s t ∧ KEQ (a_del (κ s) i) (κ t)) ∧ (∀ s t, E s t → s < n ∧ t < n ∧ ∃ i, i < κ s 1 7 ∧ KEQ (a_del (κ s) i) (κ t)) ∧ (∀ t, 0 < t → t < n → ∃ s, s < t ∧ E s t ∧ d t = d s + 1) ∧ (∀ s t, E s t → d t ≤ d s + 1)
theorem GR_into {S0 T0 : a_S} {n n' : Nat} {κ κ' : Nat → a_S} {d d' : Nat → Nat} {E E' : Nat → Nat → Prop} (h : GR S0 n κ d E) (h' : GR T0 n' κ' d' E') (h0 : KEQ S0 T0) : ∀ s, s < n → ∃ s', s' < n' ∧ KEQ (κ s) (κ' s') ∧ d' s' ≤ d s := by
  intro s
  induction s using Nat.strongRecOn with
  | _ s ih =>
    intro hs
    by_cases c : s = 0
    · subst c
      refine ⟨0, h'.1, KEQ_t (KEQ_t h.2.1 h0) (KEQ_s h'.2.1), ?_⟩
      rw [h'.2.2.1]
      exact Nat.zero_le _
    · obtain ⟨p, hp, hE, hd⟩ := h.2.2.2.2.2.2.1 s (by omega) hs
      obtain ⟨p', hp', hk, hd'⟩ := ih p hp (by omega)
      obtain ⟨_, _, i, hi, hi2⟩ := h.2.2.2.2.2.1 p s hE
      obtain ⟨k, hk1, hk2⟩ := KEQ_suc hk hi
      obtain ⟨t, ht, hE', ht2⟩ := h'.2.2.2.2.1 p' k hp' hk1
      refine ⟨t, ht, KEQ_t (KEQ_s hi2) (KEQ_t hk2 ht2), ?_⟩
      have := h'.2.2.2.2.2.2.2 p' t hE'
      omega
theorem GR_d {S0 T0 : a_S} {n n' : Nat} {κ κ' : Nat → a_S} {d d' : Nat → Nat} {E E' : Nat → Nat → Prop} (h : GR S0 n κ d E) (h' : GR T0 n' κ' d' E') (h0 : KEQ S0 T0) {s s' : Nat} (hs : s < n) (hs' : s' < n') (hk : KEQ (κ s) (κ' s')) : d s = d' s' := by
  obtain ⟨t', a1, a2, a3⟩ := GR_into h h' h0 s hs
  obtain ⟨t, b1, b2, b3⟩ := GR_into h' h (KEQ_s h0) s' hs'
  have e1 : t' = s' := h'.2.2.2.1 t' s' a1 hs' (KEQ_t (KEQ_s a2) hk)
  have e2 : t = s := h.2.2.2.1 t s b1 hs (KEQ_t (KEQ_s b2) (KEQ_s hk))
  subst e1
  subst e2
  omega
theorem GR_E {S0 T0 : a_S} {n n' : Nat} {κ κ' : Nat → a_S} {d d' : Nat → Nat} {E E' : Nat → Nat → Prop} (h : GR S0 n κ d E) (h' : GR T0 n' κ' d' E') {s s' t t' : Nat} (hs : s' < n') (ht : t' < n') (hk : KEQ (κ s) (κ' s')) (hl : KEQ (κ t) (κ' t')) (hE : E s t) : E' s' t' := by
  obtain ⟨_, _, i, hi, hi2⟩ := h.2.2.2.2.2.1 s t hE
  obtain ⟨k, hk1, hk2⟩ := KEQ_suc hk hi
  obtain ⟨u, hu, hE', hu2⟩ := h'.2.2.2.2.1 s' k hs hk1
  have : u = t' := h'.2.2.2.1 u t' hu ht (KEQ_t (KEQ_s hu2) (KEQ_t (KEQ_s hk2) (KEQ_t hi2 hl)))
  rw [← this]
  exact hE'
theorem sm_inj {R : Nat → Nat → Prop} {n' : Nat} : ∀ (n : Nat) (w w' : Nat → Nat), (∀ s, s < n → ∃ s', s' < n' ∧ R s s' ∧ w s ≤ w' s') → (∀ s t s', s < n → t < n → R s s' → R t s' → s = t) → sm w n ≤ sm w' n'
  | 0, w, w', _, _ => Nat.zero_le _
  | n + 1, w, w', h, hi => by
    obtain ⟨j, hj, hR, hw⟩ := h n (by omega)
    have e := sm_inj n w (fun x => if x = j then 0 else w' x) (fun s hs => by
      obtain ⟨s', h1, h2, h3⟩ := h s (by omega)
      have ne : s' ≠ j := by
        intro q
        have := hi s n s' (by omega) (by omega) h2 (by rw [q]; exact hR)
        omega
      exact ⟨s', h1, h2, by simp only [if_neg ne]; exact h3⟩) (fun s t s' a b => hi s t s' (by omega) (by omega))
    have e2 := sm_one (g := w') (g' := fun x => if x = j then 0 else w' x) (k := j) n' hj (fun i _ hij => if_neg hij)
    simp only [if_true] at e2
    rw [sm_s]
    omega
/-- a like sum over both -/
theorem GR_sm {S0 T0 : a_S} {n n' : Nat} {κ κ' : Nat → a_S} {d d' : Nat → Nat} {E E' : Nat → Nat → Prop} (h : GR S0 n κ d E) (h' : GR T0 n' κ' d' E') (h0 : KEQ S0 T0) (w : a_S → Nat) (hw : ∀ S T, KEQ S T → w S = w T) : sm (fun s => w (κ s)) n = sm (fun s => w (κ' s)) n' := by
  have le : ∀ {S0 T0 : a_S} {n n' : Nat} {κ κ' : Nat → a_S} {d d' : Nat → Nat} {E E' : Nat → Nat → Prop}, GR S0 n κ d E → GR T0 n' κ' d' E' → KEQ S0 T0 → sm (fun s => w (κ s)) n ≤ sm (fun s => w (κ' s)) n' := by
    intro S0 T0 n n' κ κ' d d' E E' h h' h0
    refine sm_inj (R := fun s s' => KEQ (κ s) (κ' s')) n _ _ (fun s hs => ?_) (fun s t s' a b c d => h.2.2.2.1 s t a b (KEQ_t c (KEQ_s d)))
    obtain ⟨s', a1, a2, _⟩ := GR_into h h' h0 s hs
    exact ⟨s', a1, a2, Nat.le_of_eq (hw _ _ a2)⟩
  exact Nat.le_antisymm (le h h' h0) (le h' h (KEQ_s h0))
/-! ===== rings ===== -/
def SCL (n : Nat) (E : Nat → Nat → Prop) : Prop := ∃ X : Nat → Prop, (∃ x, x < n ∧ X x) ∧ ∀ x, x < n → X x → ∃ y, y < n ∧ X y ∧ E x y
theorem SCL_walk {n : Nat} {E : Nat → Nat → Prop} (X : Nat → Prop) (h0 : ∃ x, x < n ∧ X x) (h : ∀ x, x < n → X x → ∃ y, y < n ∧ X y ∧ E x y) : ∀ m : Nat, ∃ f : Nat → Nat, (∀ i, i ≤ m → f i < n ∧ X (f i)) ∧ ∀ i, i < m → E (f i) (f (i + 1))
  | 0 => by
    obtain ⟨x, hx⟩ := h0
    exact ⟨fun _ => x, fun _ _ => hx, fun i hi => absurd hi (Nat.not_lt_zero _)⟩
  | m + 1 => by
    obtain ⟨f, f1, f2⟩ := SCL_walk X h0 h m
    obtain ⟨y, y1, y2, y3⟩ := h (f m) (f1 m (Nat.le_refl _)).1 (f1 m (Nat.le_refl _)).2
    refine ⟨fun i => if i ≤ m then f i else y, fun i hi => ?_, fun i hi => ?_⟩
    · by_cases c : i ≤ m
      · simp only [if_pos c]; exact f1 i c
      · simp only [if_neg c]; exact ⟨y1, y2⟩
    · simp only [if_pos (show i ≤ m by omega)]
      by_cases c : i + 1 ≤ m
      · simp only [if_pos c]; exact f2 i (by omega)
      · have : i = m := by omega
        subst this
        simp only [if_neg c]; exact y3
theorem SCL_op {n : Nat} {E : Nat → Nat → Prop} (h : SCL n E) : SCL n (fun x y => E y x) := by
  obtain ⟨X, h0, h1⟩ := h
  obtain ⟨f, f1, f2⟩ := SCL_walk X h0 h1 n
  have hp : ∃ i j, i < j ∧ j ≤ n ∧ f i = f j := by
    apply Classical.byContradiction
    intro hn
    have := php n (n + 1) f (fun k hk => (f1 k (by omega)).1) (fun k k' a b e => hn ⟨k, k', a, by omega, e⟩)
    omega
  obtain ⟨i, j, hij, hjn, he⟩ := hp
  refine ⟨fun y => ∃ k, i ≤ k ∧ k < j ∧ y = f k, ⟨f i, (f1 i (by omega)).1, i, by omega, hij, rfl⟩, fun x hx hX => ?_⟩
  obtain ⟨k, k1, k2, rfl⟩ := hX
  by_cases c : k = i
  · subst c
    refine ⟨f (j - 1), (f1 (j - 1) (by omega)).1, ⟨j - 1, by omega, by omega, rfl⟩, ?_⟩
    have := f2 (j - 1) (by omega)
    rw [show j - 1 + 1 = j by omega, ← he] at this
    exact this
  · refine ⟨f (k - 1), (f1 (k - 1) (by omega)).1, ⟨k - 1, by omega, by omega, rfl⟩, ?_⟩
    have := f2 (k - 1) (by omega)
    rw [show k - 1 + 1 = k by omega] at this
    exact this
theorem GR_cyc {S0 T0 : a_S} {n n' : Nat} {κ κ' : Nat → a_S} {d d' : Nat → Nat} {E E' : Nat → Nat → Prop} (h : GR S0 n κ d E) (h' : GR T0 n' κ' d' E') (h0 : KEQ S0 T0) (hc : SCL n E) : SCL n' E' := by
  obtain ⟨X, ⟨x, x1, x2⟩, hX⟩ := hc
  obtain ⟨x', a1, a2, _⟩ := GR_into h h' h0 x x1
  refine ⟨fun y => ∃ z, z < n ∧ X z ∧ KEQ (κ z) (κ' y), ⟨x', a1, x, x1, x2, a2⟩, fun y hy hY => ?_⟩
  obtain ⟨z, z1, z2, z3⟩ := hY
  obtain ⟨w, w1, w2, w3⟩ := hX z z1 z2
  obtain ⟨w', b1, b2, _⟩ := GR_into h h' h0 w w1
  exact ⟨w', b1, ⟨w, w1, w2, b2⟩, GR_E h h' hy b1 z3 b2 w3⟩
/-! ===== the answers of a walk ===== -/
def RCH (S T : a_S) : Prop := ∀ X : a_S → Prop, (∀ U, KEQ U S → X U) → (∀ U V i, X U → i < U 1 7 → KEQ (a_del U i) V → X V) → X T
theorem RCH_0 {S T : a_S} (h : KEQ T S) : RCH S T := fun X h0 _ => h0 T h
theorem RCH_s {S T V : a_S} {i : Nat} (h : RCH S T) (hi : i < T 1 7) (hk : KEQ (a_del T i) V) : RCH S V := fun X h0 h1 => h1 T V i (h X h0 h1) hi hk
def TMU (S : a_S) : Prop := (∃ T, RCH S T ∧ 24 < T 1 7) ∨ (∃ κ : Nat → a_S, (∀ s, s < 251 → RCH S (κ s)) ∧ ∀ s t, s < t → t < 251 → ¬ KEQ (κ s) (κ t))
def qui (S : a_S) : Nat := if S 1 7 = 0 then 1 else 0
def qmi (S : a_S) : Nat := if S 1 7 = 0 ∧ fr (fun c => S 292 c ≠ 0) (S 1 0) 0 ≠ 0 then 1 else 0
def FEW (κ : Nat → a_S) (d : Nat → Nat) (n : Nat) (v : Int32) : Prop := (v = -1 ∧ ∀ s, s < n → κ s 1 7 ≠ 0) ∨ (∃ s, s < n ∧ κ s 1 7 = 0 ∧ v = nI (d s) ∧ ∀ t, t < n → κ t 1 7 = 0 → d s ≤ d t)
def WANS (S : a_S) (a : Nat → Int32) : Prop := (TMU S ∧ ∀ j, j < 5 → a j = -1) ∨ (∃ n κ d E, GR S n κ d E ∧ n ≤ 250 ∧ (∀ s, s < n → κ s 1 7 ≤ 24) ∧ a 0 = nI n ∧ a 1 = nI (sm (fun s => qui (κ s)) n) ∧ a 2 = nI (sm (fun s => qmi (κ s)) n) ∧ FEW κ d n (a 3) ∧ ((SCL n E ∧ a 4 = nI 1) ∨ (¬ SCL n E ∧ a 4 = nI 0)))
theorem qui_k {S T : a_S} (h : KEQ S T) : qui S = qui T := by
  unfold qui
  rw [h.2.2.2.2.1]
theorem qmi_k {S T : a_S} (h : KEQ S T) : qmi S = qmi T := by
  have e : ∀ c, S 292 c = T 292 c := fun c => h.1 292 c (by unfold cr; omega)
  unfold qmi
  simp only [e, h.2.1, h.2.2.2.2.1]
theorem TMU_no {S S' : a_S} {n : Nat} {κ : Nat → a_S} {d : Nat → Nat} {E : Nat → Nat → Prop} (hT : TMU S') (h : GR S n κ d E) (hn : n ≤ 250) (h24 : ∀ s, s < n → κ s 1 7 ≤ 24) (h0 : KEQ S S') : False := by
  have key : ∀ T, RCH S' T → ∃ s, s < n ∧ KEQ T (κ s) := by
    intro T hT
    refine hT (fun T => ∃ s, s < n ∧ KEQ T (κ s)) (fun U hU => ⟨0, h.1, KEQ_t hU (KEQ_t (KEQ_s h0) (KEQ_s h.2.1))⟩) (fun U V i hU hi hV => ?_)
    obtain ⟨s, hs, hk⟩ := hU
    obtain ⟨k, hk1, hk2⟩ := KEQ_suc hk hi
    obtain ⟨t, ht, _, ht2⟩ := h.2.2.2.2.1 s k hs hk1
    exact ⟨t, ht, KEQ_t (KEQ_s hV) (KEQ_t hk2 ht2)⟩
  rcases hT with ⟨T, h1, h2⟩ | ⟨κ', h1, h2⟩
  · obtain ⟨s, hs, hk⟩ := key T h1
    have := h24 s hs
    have := hk.2.2.2.2.1
    omega
  · have := sm_inj (R := fun s s' => KEQ (κ' s) (κ s')) (n' := n) 251 (fun _ => 1) (fun _ => 1) (fun s hs => by
      obtain ⟨t, ht, hk⟩ := key (κ' s) (h1 s hs)
      exact ⟨t, ht, hk, Nat.le_refl _⟩) (fun s t s' a b c d => by
      apply Classical.byContradiction
      intro hne
      by_cases q : s < t
      · exact h2 s t q b (KEQ_t c (KEQ_s d))
      · exact h2 t s (by omega) a (KEQ_t d (KEQ_s c)))
    rw [sm_1, sm_1] at this
    omega
theorem WANS_u {S S' : a_S} {a a' : Nat → Int32} (h : WANS S a) (h' : WANS S' a') (h0 : KEQ S S') : ∀ j, j < 5 → a j = a' j := by
  rcases h with ⟨t, h⟩ | ⟨n, κ, d, E, g, g1, g2, b0, b1, b2, b3, b4⟩ <;> rcases h' with ⟨t', h'⟩ | ⟨n', κ', d', E', g', g1', g2', b0', b1', b2', b3', b4'⟩
  · intro j hj
    rw [h j hj, h' j hj]
  · exact (TMU_no t g' g1' g2' (KEQ_s h0)).elim
  · exact (TMU_no t' g g1 g2 h0).elim
  · have en : n = n' := by
      have := GR_sm g g' h0 (fun _ => 1) (fun _ _ _ => rfl)
      rw [sm_1, sm_1] at this
      exact this
    have e1 := GR_sm g g' h0 qui (fun _ _ h => qui_k h)
    have e2 := GR_sm g g' h0 qmi (fun _ _ h => qmi_k h)
    have e3 : a 3 = a' 3 := by
      rcases b3 with ⟨v, q⟩ | ⟨s, s1, s2, s3, s4⟩ <;> rcases b3' with ⟨v', q'⟩ | ⟨s', s1', s2', s3', s4'⟩
      · rw [v, v']
      · obtain ⟨t, t1, t2, _⟩ := GR_into g' g (KEQ_s h0) s' s1'
        exact absurd (by rw [← t2.2.2.2.2.1]; exact s2') (q t t1)
      · obtain ⟨t, t1, t2, _⟩ := GR_into g g' h0 s s1
        exact absurd (by rw [← t2.2.2.2.2.1]; exact s2) (q' t t1)
      · obtain ⟨t, t1, t2, _⟩ := GR_into g g' h0 s s1
        obtain ⟨u, u1, u2, _⟩ := GR_into g' g (KEQ_s h0) s' s1'
        have w1 := GR_d g g' h0 s1 t1 t2
        have w2 := GR_d g' g (KEQ_s h0) s1' u1 u2
        have w3 := s4 u u1 (by rw [← u2.2.2.2.2.1]; exact s2')
        have w4 := s4' t t1 (by rw [← t2.2.2.2.2.1]; exact s2)
        rw [s3, s3', show d s = d' s' by omega]
    have e4 : a 4 = a' 4 := by
      rcases b4 with ⟨c, v⟩ | ⟨c, v⟩ <;> rcases b4' with ⟨c', v'⟩ | ⟨c', v'⟩
      · rw [v, v']
      · exact absurd (GR_cyc g g' h0 c) c'
      · exact absurd (GR_cyc g' g (KEQ_s h0) c') c
      · rw [v, v']
    intro j hj
    have hj5 : j = 0 ∨ j = 1 ∨ j = 2 ∨ j = 3 ∨ j = 4 := by omega
    rcases hj5 with rfl | rfl | rfl | rfl | rfl
    · rw [b0, b0', en]
    · rw [b1, b1', e1]
    · rw [b2, b2', e2]
    · exact e3
    · exact e4
theorem WANS_k {S S' : a_S} {a : Nat → Int32} (h : WANS S a) (h0 : KEQ S S') : WANS S' a := by
  have hr : ∀ T, RCH S T → RCH S' T := fun T hT X a b => hT X (fun U hU => a U (KEQ_t hU h0)) b
  rcases h with ⟨t, h⟩ | ⟨n, κ, d, E, ⟨g1, g2, g3⟩, h⟩
  · refine Or.inl ⟨?_, h⟩
    rcases t with ⟨T, t1, t2⟩ | ⟨κ, t1, t2⟩
    · exact Or.inl ⟨T, hr T t1, t2⟩
    · exact Or.inr ⟨κ, fun s hs => hr _ (t1 s hs), t2⟩
  · exact Or.inr ⟨n, κ, d, E, ⟨g1, KEQ_t g2 h0, g3⟩, h⟩
