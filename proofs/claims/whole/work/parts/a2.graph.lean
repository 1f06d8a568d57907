/-! ===== one state of a walk: the core, and the messages in whatever order ===== -/
def KEQ (S T : a_S) : Prop := (∀ r x, cr r → S r x = T r x) ∧ S 1 0 = T 1 0 ∧ S 1 1 = T 1 1 ∧ S 1 2 = T 1 2 ∧ S 1 7 = T 1 7 ∧ ∀ φ, gp φ → mq S φ = mq T φ
theorem KEQ_r {S : a_S} : KEQ S S := ⟨fun _ _ _ => rfl, rfl, rfl, rfl, rfl, fun _ _ => rfl⟩
theorem KEQ_s {S T : a_S} (h : KEQ S T) : KEQ T S := ⟨fun r x a => (h.1 r x a).symm, h.2.1.symm, h.2.2.1.symm, h.2.2.2.1.symm, h.2.2.2.2.1.symm, fun φ a => (h.2.2.2.2.2 φ a).symm⟩
theorem KEQ_t {S T U : a_S} (h : KEQ S T) (h2 : KEQ T U) : KEQ S U := ⟨fun r x a => (h.1 r x a).trans (h2.1 r x a), h.2.1.trans h2.2.1, h.2.2.1.trans h2.2.2.1, h.2.2.2.1.trans h2.2.2.2.1, h.2.2.2.2.1.trans h2.2.2.2.2.1, fun φ a => (h.2.2.2.2.2 φ a).trans (h2.2.2.2.2.2 φ a)⟩
theorem sm_two {f f' g g' : Nat → Nat} {m : Nat} : ∀ (n : Nat), m ≤ n → (∀ i, i < m → f i = g i ∧ f' i = g' i) → (∀ i, m ≤ i → i < n → f i = f' i) → sm f n + sm g' m = sm f' n + sm g m
  | 0, h, a, b => by
    have : m = 0 := by omega
    subst this
    rfl
  | n + 1, h, a, b => by
    by_cases c : m = n + 1
    · subst c
      rw [sm_c (g' := g) (n + 1) (fun i hi => (a i hi).1), sm_c (g := f') (g' := g') (n + 1) (fun i hi => (a i hi).2)]
      omega
    · have e := sm_two n (by omega) a (fun i h1 h2 => b i h1 (by omega))
      have e2 := b n (by omega) (by omega)
      rw [sm_s, sm_s]
      omega
theorem KEQ_del {S T : a_S} {i k : Nat} (h : KEQ S T) (hi : i < S 1 7) (hk : k < T 1 7) (hm : ∀ j, j < 9 → S 586 (9 * i + j) = T 586 (9 * k + j)) : KEQ (a_del S i) (a_del T k) := by
  obtain ⟨h1, h2, h3, h4, h5, h6⟩ := h
  obtain ⟨a1, a2, a3, a4, a5, a6, a7, a8⟩ := ah_del h1 h2 h3 h4 h5 hm
  refine ⟨a1, a2, a3, a4, a5, fun φ hφ => ?_⟩
  have e1 := mq_rm hφ hi
  have e2 := mq_rm hφ hk
  have e3 : φ (fd S i) = φ (fd T k) := hφ _ _ hm
  have e4 := h6 φ hφ
  have e5 : sm (fun i => φ (fd (a_del S i) i)) 0 = 0 := rfl
  have key : mq (a_del S i) φ + mq (a_rm T k) φ = mq (a_del T k) φ + mq (a_rm S i) φ := by
    unfold mq
    rw [rm_7, rm_7, ← a5, ← h5]
    refine sm_two (m := S 1 7 - 1) (a_del S i 1 7) a6 (fun q hq => ⟨hφ _ _ (fun j hj => ?_), hφ _ _ (fun j hj => ?_)⟩) (fun q h1 h2 => hφ _ _ (fun j hj => ?_))
    · exact (a8 (9 * q + j) (by omega)).1
    · exact (a8 (9 * q + j) (by omega)).2
    · exact a7 (9 * q + j) (by omega) (by omega)
  omega
def we (a g : Nat → Nat) : Nat := if g 0 = a 0 ∧ g 1 = a 1 ∧ g 2 = a 2 ∧ g 3 = a 3 ∧ g 4 = a 4 ∧ g 5 = a 5 ∧ g 6 = a 6 ∧ g 7 = a 7 ∧ g 8 = a 8 then 1 else 0
theorem gp_we (a : Nat → Nat) : gp (we a) := by
  intro g g' h
  unfold we
  rw [h 0 (by omega), h 1 (by omega), h 2 (by omega), h 3 (by omega), h 4 (by omega), h 5 (by omega), h 6 (by omega), h 7 (by omega), h 8 (by omega)]
theorem sm_pos {g : Nat → Nat} : ∀ (n : Nat), sm g n ≠ 0 → ∃ i, i < n ∧ g i ≠ 0
  | 0, h => absurd rfl h
  | n + 1, h => by
    by_cases c : g n = 0
    · rw [sm_s, c, Nat.add_zero] at h
      obtain ⟨i, h1, h2⟩ := sm_pos n h
      exact ⟨i, by omega, h2⟩
    · exact ⟨n, by omega, c⟩
theorem KEQ_find {S T : a_S} {i : Nat} (h : KEQ S T) (hi : i < S 1 7) : ∃ k, k < T 1 7 ∧ ∀ j, j < 9 → S 586 (9 * i + j) = T 586 (9 * k + j) := by
  have e1 := mq_in (S := S) (i := i) (gp_we (fd S i)) hi
  have e2 : we (fd S i) (fd S i) = 1 := if_pos ⟨rfl, rfl, rfl, rfl, rfl, rfl, rfl, rfl, rfl⟩
  have e3 := h.2.2.2.2.2 _ (gp_we (fd S i))
  obtain ⟨k, hk, hk2⟩ := sm_pos (g := fun q => we (fd S i) (fd T q)) (T 1 7) (by
    have : mq T (we (fd S i)) = sm (fun q => we (fd S i) (fd T q)) (T 1 7) := rfl
    omega)
  refine ⟨k, hk, ?_⟩
  have hk3 : we (fd S i) (fd T k) ≠ 0 := hk2
  unfold we at hk3
  by_cases c : fd T k 0 = fd S i 0 ∧ fd T k 1 = fd S i 1 ∧ fd T k 2 = fd S i 2 ∧ fd T k 3 = fd S i 3 ∧ fd T k 4 = fd S i 4 ∧ fd T k 5 = fd S i 5 ∧ fd T k 6 = fd S i 6 ∧ fd T k 7 = fd S i 7 ∧ fd T k 8 = fd S i 8
  · intro j hj
    have hj9 : j = 0 ∨ j = 1 ∨ j = 2 ∨ j = 3 ∨ j = 4 ∨ j = 5 ∨ j = 6 ∨ j = 7 ∨ j = 8 := by omega
    obtain ⟨c0, c1, c2, c3, c4, c5, c6, c7, c8⟩ := c
    rcases hj9 with rfl | rfl | rfl | rfl | rfl | rfl | rfl | rfl | rfl
    · exact c0.symm
    · exact c1.symm
    · exact c2.symm
    · exact c3.symm
    · exact c4.symm
    · exact c5.symm
    · exact c6.symm
    · exact c7.symm
    · exact c8.symm
  · rw [if_neg c] at hk3
    exact absurd rfl hk3
theorem KEQ_suc {S T : a_S} {i : Nat} (h : KEQ S T) (hi : i < S 1 7) : ∃ k, k < T 1 7 ∧ KEQ (a_del S i) (a_del T k) := by
  obtain ⟨k, hk, hm⟩ := KEQ_find h hi
  exact ⟨k, hk, KEQ_del h hi hk hm⟩
/-! ===== what a search must find ===== -/
def GR (S0 : a_S) (n : Nat) (κ : Nat → a_S) (d : Nat → Nat) (E : Nat → Nat → Prop) : Prop :=
  0 < n ∧ KEQ (κ 0) S0 ∧ d 0 = 0 ∧ (∀ s t, s < n → t < n → KEQ (κ s) (κ t) → s = t) ∧ (∀ s i, s < n → i < κ s 1 7 → ∃ t, t < n ∧ E s t ∧ KEQ (a_del (κ s) i) (κ t)) ∧ (∀ s t, E s t → s < n ∧ t < n ∧ ∃ i, i < κ s 1 7 ∧ KEQ (a_del (κ s) i) (κ t)) ∧ (∀ t, 0 < t → t < n → ∃ s, s < t ∧ E s t ∧ d t = d s + 1) ∧ (∀ s t, E s t → d t ≤ d s + 1)
theorem sm_inj {R : Nat → Nat → Prop} {n' : Nat} : ∀ (n : Nat) (w w' : Nat → Nat), (∀ s, s < n → ∃ s', s' < n' ∧ R s s' ∧ w s ≤ w' s') → (∀ s t s', s < n → t < n → R s s' → R t s' → s = t) → sm w n ≤ sm w' n'
  | 0, w, w', _, _ => Nat.zero_le _
  | n + 1, w, w', h, hi => by
    obtain ⟨j, hj, hR, hw⟩ := h n (by omega)
    have e := sm_inj n w (fun x => if x = j then 0 else w' x) (fun s hs => by
      obtain ⟨s', h1, h2, h3⟩ := h s (by omega)
      have ne : s' ≠ j := by
        intro q
        have := hi s n s' (by omega) (by omega) h2 (by rw [q]; exact hR)
        omega
      exact ⟨s', h1, h2, by simp only [if_neg ne]; exact h3⟩) (fun s t s' a b => hi s t s' (by omega) (by omega))
    have e2 := sm_one (g := w') (g' := fun x => if x = j then 0 else w' x) (k := j) n' hj (fun i _ hij => if_neg hij)
    simp only [if_true] at e2
    rw [sm_s]
    omega
/-! ===== rings ===== -/
def SCL (n : Nat) (E : Nat → Nat → Prop) : Prop := ∃ X : Nat → Prop, (∃ x, x < n ∧ X x) ∧ ∀ x, x < n → X x → ∃ y, y < n ∧ X y ∧ E x y
theorem SCL_walk {n : Nat} {E : Nat → Nat → Prop} (X : Nat → Prop) (h0 : ∃ x, x < n ∧ X x) (h : ∀ x, x < n → X x → ∃ y, y < n ∧ X y ∧ E x y) : ∀ m : Nat, ∃ f : Nat → Nat, (∀ i, i ≤ m → f i < n ∧ X (f i)) ∧ ∀ i, i < m → E (f i) (f (i + 1))
  | 0 => by
    obtain ⟨x, hx⟩ := h0
    exact ⟨fun _ => x, fun _ _ => hx, fun i hi => absurd hi (Nat.not_lt_zero _)⟩
  | m + 1 => by
    obtain ⟨f, f1, f2⟩ := SCL_walk X h0 h m
    obtain ⟨y, y1, y2, y3⟩ := h (f m) (f1 m (Nat.le_refl _)).1 (f1 m (Nat.le_refl _)).2
    refine ⟨fun i => if i ≤ m then f i else y, fun i hi => ?_, fun i hi => ?_⟩
    · by_cases c : i ≤ m
      · simp only [if_pos c]; exact f1 i c
      · simp only [if_neg c]; exact ⟨y1, y2⟩
    · simp only [if_pos (show i ≤ m by omega)]
      by_cases c : i + 1 ≤ m
      · simp only [if_pos c]; exact f2 i (by omega)
      · have : i = m := by omega
        subst this
        simp only [if_neg c]; exact y3
theorem SCL_op {n : Nat} {E : Nat → Nat → Prop} (h : SCL n E) : SCL n (fun x y => E y x) := by
  obtain ⟨X, h0, h1⟩ := h
  obtain ⟨f, f1, f2⟩ := SCL_walk X h0 h1 n
  have hp : ∃ i j, i < j ∧ j ≤ n ∧ f i = f j := by
    apply Classical.byContradiction
    intro hn
    have := php n (n + 1) f (fun k hk => (f1 k (by omega)).1) (fun k k' a b e => hn ⟨k, k', a, by omega, e⟩)
    omega
  obtain ⟨i, j, hij, hjn, he⟩ := hp
  refine ⟨fun y => ∃ k, i ≤ k ∧ k < j ∧ y = f k, ⟨f i, (f1 i (by omega)).1, i, by omega, hij, rfl⟩, fun x hx hX => ?_⟩
  obtain ⟨k, k1, k2, rfl⟩ := hX
  by_cases c : k = i
  · subst c
    refine ⟨f (j - 1), (f1 (j - 1) (by omega)).1, ⟨j - 1, by omega, by omega, rfl⟩, ?_⟩
    have := f2 (j - 1) (by omega)
    rw [show j - 1 + 1 = j by omega, ← he] at this
    exact this
  · refine ⟨f (k - 1), (f1 (k - 1) (by omega)).1, ⟨k - 1, by omega, by omega, rfl⟩, ?_⟩
    have := f2 (k - 1) (by omega)
    rw [show k - 1 + 1 = k by omega] at this
    exact this
/-! ===== the answers of a walk ===== -/
/-- the like settings -/
def PAR (K S : a_S) : Prop := K 1 0 = S 1 0 ∧ K 1 1 = S 1 1 ∧ K 1 2 = S 1 2 ∧ K 1 5 = S 1 5
/-- what is there of a node, for n CPUs -/
def PRS (N r x : Nat) : Prop := ((r = 14 ∨ r = 70 ∨ r = 126 ∨ r = 182) ∧ (x < 8 * N ∨ (48 ≤ x ∧ x < 56))) ∨ ((r = 238 ∨ r = 292 ∨ r = 298 ∨ r = 304 ∨ r = 310) ∧ x < N) ∨ (r = 244 ∧ x < 8 * N) ∨ ((r = 316 ∨ r = 358 ∨ r = 400 ∨ r = 442 ∨ r = 484) ∧ (x < 6 * N ∨ (36 ≤ x ∧ x < 42)))
/-- a state on the walk from S0 -/
def NOD (S0 S : a_S) : Prop := INV S z0 ∧ PAR S S0 ∧ ∀ r x, cr r → ¬ PRS (S0 1 0) r x → S r x = S0 r x
def RCH (S T : a_S) : Prop := NOD S T ∧ ∀ X : a_S → Prop, (∀ U, KEQ U S → NOD S U → X U) → (∀ U V i, X U → NOD S U → i < U 1 7 → KEQ (a_del U i) V → NOD S V → X V) → X T
theorem RCH_0 {S T : a_S} (h : KEQ T S) (hn : NOD S T) : RCH S T := ⟨hn, fun X h0 _ => h0 T h hn⟩
theorem RCH_s {S T V : a_S} {i : Nat} (h : RCH S T) (hi : i < T 1 7) (hk : KEQ (a_del T i) V) (hn : NOD S V) : RCH S V := ⟨hn, fun X h0 h1 => h1 T V i (h.2 X h0 h1) h.1 hi hk hn⟩
def TMU (S : a_S) : Prop := (∃ T, RCH S T ∧ 24 < T 1 7) ∨ (∃ κ : Nat → a_S, (∀ s, s < 251 → RCH S (κ s)) ∧ ∀ s t, s < t → t < 251 → ¬ KEQ (κ s) (κ t))
def qui (S : a_S) : Nat := if S 1 7 = 0 then 1 else 0
def qmi (S : a_S) : Nat := if S 1 7 = 0 ∧ fr (fun c => S 292 c ≠ 0) (S 1 0) 0 ≠ 0 then 1 else 0
def FEW (κ : Nat → a_S) (d : Nat → Nat) (n : Nat) (v : Int32) : Prop := (v = -1 ∧ ∀ s, s < n → κ s 1 7 ≠ 0) ∨ (∃ s, s < n ∧ κ s 1 7 = 0 ∧ v = nI (d s) ∧ ∀ t, t < n → κ t 1 7 = 0 → d s ≤ d t)
def WANS (S : a_S) (a : Nat → Int32) : Prop := (TMU S ∧ ∀ j, j < 5 → a j = -1) ∨ (∃ n κ d E, GR S n κ d E ∧ (∀ s, s < n → NOD S (κ s)) ∧ n ≤ 250 ∧ (∀ s, s < n → κ s 1 7 ≤ 24) ∧ a 0 = nI n ∧ a 1 = nI (sm (fun s => qui (κ s)) n) ∧ a 2 = nI (sm (fun s => qmi (κ s)) n) ∧ FEW κ d n (a 3) ∧ ((SCL n E ∧ a 4 = nI 1) ∨ (¬ SCL n E ∧ a 4 = nI 0)))
