/-! ===== the messages in another order ===== -/
def PRM (S S' : a_S) : Prop := (∀ r x, r ≠ 586 → S' r x = S r x) ∧ (∀ φ, gp φ → mq S' φ = mq S φ) ∧ (∀ i, i < S 1 7 → ∃ k, k < S 1 7 ∧ ∀ j, j < 9 → fd S' i j = fd S k j) ∧ (RG S → RG S')
theorem PRM_r {S : a_S} : PRM S S := ⟨fun _ _ _ => rfl, fun _ _ => rfl, fun i hi => ⟨i, hi, fun _ _ => rfl⟩, fun h => h⟩
theorem PRM_t {S S' S'' : a_S} (h : PRM S S') (h2 : PRM S' S'') : PRM S S'' := by
  have e7 : S' 1 7 = S 1 7 := h.1 1 7 (by omega)
  refine ⟨fun r x hr => by rw [h2.1 r x hr, h.1 r x hr], fun φ hφ => by rw [h2.2.1 φ hφ, h.2.1 φ hφ], fun i hi => ?_, fun q => h2.2.2.2 (h.2.2.2 q)⟩
  obtain ⟨k, k1, k2⟩ := h2.2.2.1 i (by omega)
  obtain ⟨q, q1, q2⟩ := h.2.2.1 k (by omega)
  exact ⟨q, q1, fun j hj => by rw [k2 j hj, q2 j hj]⟩
theorem KEQ_prm {S S' : a_S} (h : PRM S S') : KEQ S' S := ⟨fun r x hr => h.1 r x (by unfold cr at hr; omega), h.1 1 0 (by omega), h.1 1 1 (by omega), h.1 1 2 (by omega), h.1 1 7 (by omega), h.2.1⟩
theorem INV_prm {S S' : a_S} (h : PRM S S') (hi : INV S z0) : INV S' z0 := by
  obtain ⟨i1, i2, i3, i4, i5, i6, i7, i8, i9, i10, i11⟩ := hi
  have e : ∀ r, r ≠ 586 → ∀ x, S' r x = S r x := fun r hr x => h.1 r x hr
  refine ⟨h.2.2.2 i1, UD_c i2 (e 238 (by omega)) (e 244 (by omega)), UM_c i3 (e 238 (by omega)) (e 244 (by omega)) (e 14 (by omega)), fun i hq => ?_, fun l hl => ?_, ⟨?_, fun c hc => ?_⟩, SC_c i7 (fun i _ => e 1 (by omega) i), MS_c i8 (e 292 (by omega)) (e 298 (by omega)) (e 304 (by omega)) (e 310 (by omega)) (e 1 (by omega) 0), HG_c i9 (e 538 (by omega)) (e 6766 (by omega)), TI_c i10 (e 532 (by omega)) (e 6730 (by omega)) (fun c _ => e 316 (by omega) _) (e 1 (by omega) 5), SU_c i11 (e 6736 (by omega)) (e 1 (by omega) 9) (e 1 (by omega) 10) (e 1 (by omega) 11)⟩
  · rw [e 1 (by omega) 7] at hq
    obtain ⟨k, k1, k2⟩ := h.2.2.1 i hq
    rw [e 1 (by omega) 0]
    exact VMf_c (i4 k k1) k2
  · have := i5 l hl
    unfold tkn at this ⊢
    rw [h.2.1 _ (gp_t l), e 1 (by omega) 1]
    simp only [e 14 (by omega)]
    exact this
  · rw [h.2.1 _ gp_a]; exact i6.1
  · rw [h.2.1 _ (gp_k 4 c), h.2.1 _ (gp_k 5 c), e 310 (by omega)]
    exact i6.2 c hc
/-- two that are neighbours change places -/
def swp (S : a_S) (k : Nat) : a_S := fun r x => if r = 586 then (if 9 * k ≤ x ∧ x < 9 * k + 9 then S 586 (x + 9) else if 9 * k + 9 ≤ x ∧ x < 9 * k + 18 then S 586 (x - 9) else S 586 x) else S r x
theorem swp_o {S : a_S} {k r x : Nat} (h : r ≠ 586) : swp S k r x = S r x := if_neg h
theorem swp_a {S : a_S} {k j : Nat} (hj : j < 9) : fd (swp S k) k j = fd S (k + 1) j := by
  unfold fd swp
  rw [if_pos rfl, if_pos (by omega), show 9 * k + j + 9 = 9 * (k + 1) + j by omega]
theorem swp_b {S : a_S} {k j : Nat} (hj : j < 9) : fd (swp S k) (k + 1) j = fd S k j := by
  unfold fd swp
  rw [if_pos rfl, if_neg (by omega), if_pos (by omega), show 9 * (k + 1) + j - 9 = 9 * k + j by omega]
theorem swp_c {S : a_S} {k i j : Nat} (hj : j < 9) (h1 : i ≠ k) (h2 : i ≠ k + 1) : fd (swp S k) i j = fd S i j := by
  unfold fd swp
  rw [if_pos rfl, if_neg (by omega), if_neg (by omega)]
theorem sm_swap {g g' : Nat → Nat} {k : Nat} : ∀ (n : Nat), k + 1 < n → g' k = g (k + 1) → g' (k + 1) = g k → (∀ i, i < n → i ≠ k → i ≠ k + 1 → g' i = g i) → sm g' n = sm g n
  | 0, h, _, _, _ => by omega
  | n + 1, h, h1, h2, h3 => by
    by_cases c : k + 1 = n
    · subst c
      rw [sm_s, sm_s, sm_s, sm_s, sm_c (g' := g) k (fun i hi => h3 i (by omega) (by omega) (by omega)), h1, h2]
      omega
    · rw [sm_s, sm_s, sm_swap n (by omega) h1 h2 (fun i hi a b => h3 i (by omega) a b), h3 n (by omega) (by omega) (by omega)]
theorem PRM_swp {S : a_S} {k : Nat} (hk : k + 1 < S 1 7) : PRM S (swp S k) := by
  refine ⟨fun r x hr => swp_o hr, fun φ hφ => ?_, fun i hi => ?_, fun h r x => ?_⟩
  · unfold mq
    rw [swp_o (by omega)]
    exact sm_swap _ hk (hφ _ _ (fun j hj => swp_a hj)) (hφ _ _ (fun j hj => swp_b hj)) (fun i _ h1 h2 => hφ _ _ (fun j hj => swp_c hj h1 h2))
  · by_cases c1 : i = k
    · exact ⟨k + 1, hk, fun j hj => by rw [c1, swp_a hj]⟩
    · by_cases c2 : i = k + 1
      · exact ⟨k, by omega, fun j hj => by rw [c2, swp_b hj]⟩
      · exact ⟨i, hi, fun j hj => swp_c hj c1 c2⟩
  · unfold swp
    by_cases c : r = 586
    · subst c
      rw [if_pos rfl]
      have key : ∀ y, y % 9 = x % 9 → rg 586 x (S 586 y) := by
        intro y hy
        have := h 586 y
        unfold rg at this ⊢
        rw [← hy]
        omega
      split
      · exact key _ (by omega)
      · split
        · exact key _ (by omega)
        · exact key _ rfl
    · rw [if_neg c]
      exact h r x
/-! ===== sorted rows with like counts are alike ===== -/
theorem srt_eq : ∀ (n : Nat) (u v : Nat → Nat), (∀ a b, a < b → b < n → u a ≤ u b) → (∀ a b, a < b → b < n → v a ≤ v b) → (∀ c, sm (fun i => if u i = c then 1 else 0) n = sm (fun i => if v i = c then 1 else 0) n) → ∀ i, i < n → u i = v i
  | 0, _, _, _, _, _ => fun i hi => absurd hi (Nat.not_lt_zero _)
  | n + 1, u, v, hu, hv, hc => by
    have top : ∀ (u v : Nat → Nat), (∀ a b, a < b → b < n + 1 → v a ≤ v b) → (∀ c, sm (fun i => if u i = c then 1 else 0) (n + 1) = sm (fun i => if v i = c then 1 else 0) (n + 1)) → u n ≤ v n := by
      intro u v hv hc
      have e := hc (u n)
      rw [sm_s] at e
      simp only [if_true] at e
      obtain ⟨i, hi, hi2⟩ := sm_pos (g := fun i => if v i = u n then 1 else 0) (n + 1) (by omega)
      have hi3 : v i = u n := by
        by_cases q : v i = u n
        · exact q
        · simp only [if_neg q] at hi2
          exact absurd rfl hi2
      by_cases q : i = n
      · rw [← hi3, q]; exact Nat.le_refl _
      · have := hv i n (by omega) (by omega)
        omega
    have en : u n = v n := Nat.le_antisymm (top u v hv hc) (top v u hu (fun c => (hc c).symm))
    have ih := srt_eq n u v (fun a b h1 h2 => hu a b h1 (by omega)) (fun a b h1 h2 => hv a b h1 (by omega)) (fun c => by
      have e := hc c
      rw [sm_s, sm_s, en] at e
      omega)
    intro i hi
    by_cases q : i = n
    · rw [q, en]
    · exact ih i (by omega)
theorem KEQ_srt {S T : a_S} {f : (Nat → Nat) → Nat} (h : KEQ S T) (hf : gp f) (hS : ∀ a b, a < b → b < S 1 7 → f (fd S a) ≤ f (fd S b)) (hT : ∀ a b, a < b → b < T 1 7 → f (fd T a) ≤ f (fd T b)) : ∀ i, i < S 1 7 → f (fd S i) = f (fd T i) := by
  refine srt_eq (S 1 7) _ _ hS (fun a b h1 h2 => hT a b h1 (by rw [← h.2.2.2.2.1]; exact h2)) (fun c => ?_)
  have := h.2.2.2.2.2 (fun g => if f g = c then 1 else 0) (fun g g' hg => by simp only [hf g g' hg])
  unfold mq at this
  rw [← h.2.2.2.2.1] at this
  exact this
/-! ===== a kept state laid out anew ===== -/
def LAY (K S : a_S) : a_S := fun r x => if r = 14 ∨ r = 70 ∨ r = 126 ∨ r = 182 ∨ r = 238 ∨ r = 244 ∨ r = 292 ∨ r = 298 ∨ r = 304 ∨ r = 310 ∨ r = 316 ∨ r = 358 ∨ r = 400 ∨ r = 442 ∨ r = 484 then K r x else if r = 586 ∧ x < 9 * K 1 7 then K 586 x else if r = 1 ∧ x = 7 then K 1 7 else S r x
theorem lay_c {K S : a_S} {r x : Nat} (h : cr r) : LAY K S r x = K r x := if_pos h
theorem lay_m {K S : a_S} {x : Nat} (h : x < 9 * K 1 7) : LAY K S 586 x = K 586 x := by
  unfold LAY
  rw [if_neg (by omega), if_pos ⟨rfl, h⟩]
theorem lay_7 {K S : a_S} : LAY K S 1 7 = K 1 7 := by
  unfold LAY
  rw [if_neg (by omega), if_neg (by omega), if_pos ⟨rfl, rfl⟩]
theorem lay_o {K S : a_S} {r x : Nat} (h : ¬ cr r) (h1 : ¬ (r = 586 ∧ x < 9 * K 1 7)) (h2 : ¬ (r = 1 ∧ x = 7)) : LAY K S r x = S r x := by
  unfold cr at h
  unfold LAY
  rw [if_neg h, if_neg h1, if_neg h2]
theorem lay_1 {K S : a_S} {x : Nat} (h : x ≠ 7) : LAY K S 1 x = S 1 x := lay_o (by unfold cr; omega) (by omega) (by omega)
theorem mq_lay {K S : a_S} {φ : (Nat → Nat) → Nat} (hφ : gp φ) : mq (LAY K S) φ = mq K φ := by
  unfold mq
  rw [lay_7]
  exact sm_c _ (fun i hi => hφ _ _ (fun j hj => lay_m (by omega)))
theorem KEQ_lay {K S : a_S} (h : PAR K S) : KEQ (LAY K S) K :=
  ⟨fun r x hr => lay_c hr, by rw [lay_1 (by omega), h.1], by rw [lay_1 (by omega), h.2.1], by rw [lay_1 (by omega), h.2.2.1], lay_7, fun φ hφ => mq_lay hφ⟩
theorem INV_lay {K S : a_S} (hp : PAR K S) (hk : INV K z0) (hs : INV S z0) : INV (LAY K S) z0 := by
  obtain ⟨i1, i2, i3, i4, i5, i6, i7, i8, i9, i10, i11⟩ := hk
  obtain ⟨j1, j2, j3, j4, j5, j6, j7, j8, j9, j10, j11⟩ := hs
  have e : ∀ r, cr r → ∀ x, LAY K S r x = K r x := fun r hr x => lay_c hr
  have o : ∀ r, ¬ cr r → r ≠ 586 → r ≠ 1 → ∀ x, LAY K S r x = S r x := fun r h1 h2 h3 x => lay_o h1 (by omega) (by omega)
  refine ⟨fun r x => ?_, UD_c i2 (e 238 (by unfold cr; omega)) (e 244 (by unfold cr; omega)), UM_c i3 (e 238 (by unfold cr; omega)) (e 244 (by unfold cr; omega)) (e 14 (by unfold cr; omega)), fun i hq => ?_, fun l hl => ?_, ⟨?_, fun c hc => ?_⟩, SC_c j7 (fun i hi => lay_1 (by omega)), MS_c i8 (e 292 (by unfold cr; omega)) (e 298 (by unfold cr; omega)) (e 304 (by unfold cr; omega)) (e 310 (by unfold cr; omega)) (by rw [lay_1 (by omega), hp.1]), HG_c j9 (o 538 (by unfold cr; omega) (by omega) (by omega)) (o 6766 (by unfold cr; omega) (by omega) (by omega)), fun c hc => ?_, SU_c j11 (o 6736 (by unfold cr; omega) (by omega) (by omega)) (lay_1 (by omega)) (lay_1 (by omega)) (lay_1 (by omega))⟩
  · unfold LAY
    split
    · exact i1 r x
    · split
      · rename_i q
        rw [q.1]
        exact i1 586 x
      · split
        · rename_i q
          rw [q.1, q.2]
          exact i1 1 7
        · exact j1 r x
  · rw [lay_7] at hq
    rw [lay_1 (by omega), ← hp.1]
    exact VMf_c (i4 i hq) (fun j hj => lay_m (by omega))
  · have := i5 l hl
    unfold tkn at this ⊢
    rw [mq_lay (gp_t l), lay_1 (by omega), ← hp.2.1]
    simp only [e 14 (by unfold cr; omega)]
    exact this
  · rw [mq_lay gp_a]; exact i6.1
  · rw [mq_lay (gp_k 4 c), mq_lay (gp_k 5 c), e 310 (by unfold cr; omega)]
    exact i6.2 c hc
  · rw [o 532 (by unfold cr; omega) (by omega) (by omega), o 6730 (by unfold cr; omega) (by omega) (by omega), e 316 (by unfold cr; omega), lay_1 (by omega)]
    have h1 := j10 c hc
    have h2 := i10 c hc
    rw [hp.2.2.2] at h2
    exact ⟨h1.1, h1.2.1, h2.2.2⟩
/-! ===== the search, in thought ===== -/
theorem NOD_r {S0 : a_S} (h : INV S0 z0) : NOD S0 S0 := ⟨h, ⟨rfl, rfl, rfl, rfl⟩, fun _ _ _ _ => rfl⟩
theorem NOD_prm {S0 S S' : a_S} (h : NOD S0 S) (hp : PRM S S') : NOD S0 S' :=
  ⟨INV_prm hp h.1, ⟨by rw [hp.1 1 0 (by omega)]; exact h.2.1.1, by rw [hp.1 1 1 (by omega)]; exact h.2.1.2.1, by rw [hp.1 1 2 (by omega)]; exact h.2.1.2.2.1, by rw [hp.1 1 5 (by omega)]; exact h.2.1.2.2.2⟩, fun r x hr hx => by rw [hp.1 r x (by unfold cr at hr; omega)]; exact h.2.2 r x hr hx⟩
theorem NOD_lay {S0 K S : a_S} (hk : NOD S0 K) (hs : NOD S0 S) : NOD S0 (LAY K S) :=
  ⟨INV_lay ⟨by rw [hk.2.1.1, hs.2.1.1], by rw [hk.2.1.2.1, hs.2.1.2.1], by rw [hk.2.1.2.2.1, hs.2.1.2.2.1], by rw [hk.2.1.2.2.2, hs.2.1.2.2.2]⟩ hk.1 hs.1, ⟨by rw [lay_1 (by omega)]; exact hs.2.1.1, by rw [lay_1 (by omega)]; exact hs.2.1.2.1, by rw [lay_1 (by omega)]; exact hs.2.1.2.2.1, by rw [lay_1 (by omega)]; exact hs.2.1.2.2.2⟩, fun r x hr hx => by rw [lay_c hr]; exact hk.2.2 r x hr hx⟩
theorem NOD_par {S0 K S : a_S} (hk : NOD S0 K) (hs : NOD S0 S) : PAR K S := ⟨by rw [hk.2.1.1, hs.2.1.1], by rw [hk.2.1.2.1, hs.2.1.2.1], by rw [hk.2.1.2.2.1, hs.2.1.2.2.1], by rw [hk.2.1.2.2.2, hs.2.1.2.2.2]⟩
theorem NOD_del {S0 S : a_S} {i : Nat} (h : NOD S0 S) (hi : i < S 1 7) : NOD S0 (a_del S i) := by
  have st : ∀ j, j < 6 → a_del S i 1 j = S 1 j := fun j hj => st_del (Or.inl ⟨rfl, by omega⟩)
  refine ⟨INV_del h.1 hi, ⟨by rw [st 0 (by omega)]; exact h.2.1.1, by rw [st 1 (by omega)]; exact h.2.1.2.1, by rw [st 2 (by omega)]; exact h.2.1.2.2.1, by rw [st 5 (by omega)]; exact h.2.1.2.2.2⟩, fun r x hr hx => ?_⟩
  rw [FB_del h.1 hi r x hr ?_]
  · exact h.2.2 r x hr hx
  · intro hb
    have v := h.1.2.2.2.1 i hi
    have v9 : S 586 (9 * i + 1) < S 1 0 ∨ S 586 (9 * i + 1) = 6 := v.2.2.2.2.2.2.2.2
    have n6 := g_n h.1.1
    rw [h.2.1.1] at v9 n6
    apply hx
    generalize S 586 (9 * i + 1) = nd at *
    generalize S0 1 0 = N at *
    unfold INB at hb
    unfold PRS
    omega
/-- how far a search is: n states are known, those before s have been left in every way -/
def BF (S0 : a_S) (n : Nat) (κ : Nat → a_S) (d : Nat → Nat) (E : Nat → Nat → Prop) (s : Nat) : Prop :=
  0 < n ∧ KEQ (κ 0) S0 ∧ d 0 = 0 ∧ (∀ a b, a < b → b < n → ¬ KEQ (κ a) (κ b)) ∧ (∀ t, t < n → RCH S0 (κ t) ∧ NOD S0 (κ t) ∧ κ t 1 7 ≤ 24) ∧ (∀ a b, a ≤ b → b < n → d a ≤ d b) ∧ (s < n → ∀ t, t < n → d t ≤ d s + 1) ∧ (∀ a b, E a b → a < n ∧ b < n ∧ d b ≤ d a + 1 ∧ ∃ i, i < κ a 1 7 ∧ KEQ (a_del (κ a) i) (κ b)) ∧ (∀ t, 0 < t → t < n → ∃ a, a < t ∧ E a t ∧ d t = d a + 1) ∧ (∀ a i, a < s → i < κ a 1 7 → ∃ t, t < n ∧ E a t ∧ KEQ (a_del (κ a) i) (κ t))
theorem BF_0 {S0 U : a_S} (hk : KEQ U S0) (hn : NOD S0 U) (h24 : U 1 7 ≤ 24) : BF S0 1 (fun _ => U) (fun _ => 0) (fun _ _ => False) 0 :=
  ⟨by omega, hk, rfl, fun a b h1 h2 => by omega, fun t _ => ⟨RCH_0 hk hn, hn, h24⟩, fun _ _ _ _ => Nat.le_refl _, fun _ _ _ => Nat.zero_le _, fun _ _ h => h.elim, fun t h1 h2 => by omega, fun a i h => by omega⟩
/-- an edge to a known state -/
theorem BF_old {S0 : a_S} {n s t i : Nat} {κ : Nat → a_S} {d : Nat → Nat} {E : Nat → Nat → Prop} (h : BF S0 n κ d E s) (hs : s < n) (ht : t < n) (hi : i < κ s 1 7) (hk : KEQ (a_del (κ s) i) (κ t)) : BF S0 n κ d (fun a b => E a b ∨ (a = s ∧ b = t)) s := by
  obtain ⟨h1, h2, h3, h4, h5, h6, h7, h8, h9, h10⟩ := h
  refine ⟨h1, h2, h3, h4, h5, h6, h7, fun a b q => ?_, fun t' a b => ?_, fun a i' q1 q2 => ?_⟩
  · rcases q with q | ⟨rfl, rfl⟩
    · exact h8 a b q
    · exact ⟨hs, ht, h7 hs b ht, i, hi, hk⟩
  · obtain ⟨p, p1, p2, p3⟩ := h9 t' a b
    exact ⟨p, p1, Or.inl p2, p3⟩
  · obtain ⟨p, p1, p2, p3⟩ := h10 a i' q1 q2
    exact ⟨p, p1, Or.inl p2, p3⟩
/-- an edge to a new state -/
theorem BF_new {S0 U : a_S} {n s i : Nat} {κ : Nat → a_S} {d : Nat → Nat} {E : Nat → Nat → Prop} (h : BF S0 n κ d E s) (hs : s < n) (hi : i < κ s 1 7) (hk : KEQ (a_del (κ s) i) U) (hU : NOD S0 U) (h24 : U 1 7 ≤ 24) (hne : ∀ t, t < n → ¬ KEQ (κ t) U) : BF S0 (n + 1) (fun t => if t = n then U else κ t) (fun t => if t = n then d s + 1 else d t) (fun a b => E a b ∨ (a = s ∧ b = n)) s := by
  obtain ⟨h1, h2, h3, h4, h5, h6, h7, h8, h9, h10⟩ := h
  have eκ : ∀ t, t < n → (if t = n then U else κ t) = κ t := fun t ht => if_neg (by omega)
  have ed : ∀ t, t < n → (if t = n then d s + 1 else d t) = d t := fun t ht => if_neg (by omega)
  refine ⟨by omega, ?_, ?_, fun a b q1 q2 => ?_, fun t ht => ?_, fun a b q1 q2 => ?_, fun _ t ht => ?_, fun a b q => ?_, fun t q1 q2 => ?_, fun a i' q1 q2 => ?_⟩
  · simp only [eκ 0 h1]; exact h2
  · simp only [ed 0 h1]; exact h3
  · simp only [eκ a (by omega)]
    by_cases c : b = n
    · simp only [if_pos c]; exact hne a (by omega)
    · simp only [if_neg c]; exact h4 a b q1 (by omega)
  · by_cases c : t = n
    · simp only [if_pos c]
      exact ⟨RCH_s (h5 s hs).1 hi hk hU, hU, h24⟩
    · simp only [if_neg c]; exact h5 t (by omega)
  · by_cases c : b = n
    · simp only [if_pos c]
      by_cases c2 : a = n
      · simp only [if_pos c2]; exact Nat.le_refl _
      · simp only [if_neg c2]; exact h7 hs a (by omega)
    · simp only [if_neg c, if_neg (show ¬ a = n by omega)]; exact h6 a b q1 (by omega)
  · simp only [ed s hs]
    by_cases c : t = n
    · simp only [if_pos c]; exact Nat.le_refl _
    · simp only [if_neg c]; exact h7 hs t (by omega)
  · rcases q with q | ⟨rfl, rfl⟩
    · obtain ⟨p1, p2, p3, p4⟩ := h8 a b q
      simp only [eκ a p1, eκ b p2, ed a p1, ed b p2]
      exact ⟨by omega, by omega, p3, p4⟩
    · simp only [eκ a hs, ed a hs, if_true]
      exact ⟨by omega, by omega, Nat.le_refl _, i, hi, hk⟩
  · by_cases c : t = n
    · refine ⟨s, by omega, Or.inr ⟨rfl, c⟩, ?_⟩
      simp only [if_pos c, ed s hs]
    · obtain ⟨p, p1, p2, p3⟩ := h9 t q1 (by omega)
      refine ⟨p, p1, Or.inl p2, ?_⟩
      simp only [if_neg c, ed p (by omega)]
      exact p3
  · simp only [eκ a (by omega)] at q2 ⊢
    obtain ⟨p, p1, p2, p3⟩ := h10 a i' q1 q2
    refine ⟨p, by omega, Or.inl p2, ?_⟩
    simp only [eκ p p1]
    exact p3
/-- all ways out of s are known -/
theorem BF_next {S0 : a_S} {n s : Nat} {κ : Nat → a_S} {d : Nat → Nat} {E : Nat → Nat → Prop} (h : BF S0 n κ d E s) (hs : s < n) (ha : ∀ i, i < κ s 1 7 → ∃ t, t < n ∧ E s t ∧ KEQ (a_del (κ s) i) (κ t)) : BF S0 n κ d E (s + 1) := by
  obtain ⟨h1, h2, h3, h4, h5, h6, h7, h8, h9, h10⟩ := h
  refine ⟨h1, h2, h3, h4, h5, h6, fun q t ht => ?_, h8, h9, fun a i q1 q2 => ?_⟩
  · have := h7 hs t ht
    have := h6 s (s + 1) (by omega) q
    omega
  · by_cases c : a = s
    · subst c; exact ha i q2
    · exact h10 a i (by omega) q2
theorem BF_end {S0 : a_S} {n : Nat} {κ : Nat → a_S} {d : Nat → Nat} {E : Nat → Nat → Prop} (h : BF S0 n κ d E n) : GR S0 n κ d E := by
  obtain ⟨h1, h2, h3, h4, h5, h6, h7, h8, h9, h10⟩ := h
  refine ⟨h1, h2, h3, fun s t a b c => ?_, h10, fun s t q => ?_, h9, fun s t q => (h8 s t q).2.2.1⟩
  · apply Classical.byContradiction
    intro q
    by_cases q2 : s < t
    · exact h4 s t q2 b c
    · exact h4 t s (by omega) a (KEQ_s c)
  · obtain ⟨p1, p2, _, p4⟩ := h8 s t q
    exact ⟨p1, p2, p4⟩
theorem BF_full {S0 U : a_S} {s i : Nat} {κ : Nat → a_S} {d : Nat → Nat} {E : Nat → Nat → Prop} (h : BF S0 250 κ d E s) (hs : s < 250) (hi : i < κ s 1 7) (hk : KEQ (a_del (κ s) i) U) (hU : NOD S0 U) (hne : ∀ t, t < 250 → ¬ KEQ (κ t) U) : TMU S0 := by
  obtain ⟨h1, h2, h3, h4, h5, h6, h7, h8, h9, h10⟩ := h
  refine Or.inr ⟨fun t => if t = 250 then U else κ t, fun t ht => ?_, fun a b q1 q2 => ?_⟩
  · by_cases c : t = 250
    · simp only [if_pos c]; exact RCH_s (h5 s hs).1 hi hk hU
    · simp only [if_neg c]; exact (h5 t (by omega)).1
  · simp only [if_neg (show ¬ a = 250 by omega)]
    by_cases c : b = 250
    · simp only [if_pos c]; exact hne a (by omega)
    · simp only [if_neg c]; exact h4 a b q1 (by omega)
theorem BF_much {S0 : a_S} {n s i : Nat} {κ : Nat → a_S} {d : Nat → Nat} {E : Nat → Nat → Prop} (h : BF S0 n κ d E s) (hs : s < n) (hi : i < κ s 1 7) (hk : 24 < a_del (κ s) i 1 7) : TMU S0 :=
  Or.inl ⟨_, RCH_s (h.2.2.2.2.1 s hs).1 hi KEQ_r (NOD_del (h.2.2.2.2.1 s hs).2.1 hi), hk⟩
