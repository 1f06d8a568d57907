/-! ===== the class's digest: one for one content ===== -/
def hf (g : Nat → Int32) : Nat → Nat → Int32 → Int32
  | 0, _, a => a
  | m + 1, k, a => hf g m (k + 1) (a * nI 31 + g k)
theorem hf_c {g g' : Nat → Int32} : ∀ (m k : Nat) (a : Int32), (∀ j, k ≤ j → j < k + m → g j = g' j) → hf g m k a = hf g' m k a
  | 0, _, _, _ => rfl
  | m + 1, k, a, h => by
    unfold hf
    rw [h k (by omega) (by omega)]
    exact hf_c m (k + 1) _ (fun j h1 h2 => h j (by omega) (by omega))
def hfin (l2 : Int32) : Int32 := ((l2 ^^^ (us l2 (nI 15))) * (739982445 : Int32)) ^^^ (us ((l2 ^^^ (us l2 (nI 15))) * (739982445 : Int32)) (nI 12))
theorem x_h35 {M : j_M} {n k : Nat} (h8 : M 70 8 = nI n) (hn : n ≤ 240) : ∀ (m i : Nat) (a : Int32), i + m = n → xX10_hash_35 70 (k + m + 1) a (nI i) M = some (hfin (hf (M 72) m i a), M)
  | 0, i, a, h => by
    rw [show k + 0 + 1 = k + 1 from rfl, xX10_hash_35.eq_2, h8, e_oli2, if_pos (by rw [e_le (by omega) (by omega)]; omega)]
    rfl
  | m + 1, i, a, h => by
    rw [show k + (m + 1) + 1 = (k + m + 1) + 1 by omega, xX10_hash_35.eq_2, h8, e_oli2, if_neg (by rw [e_le (by omega) (by omega)]; omega), e_gd (by omega) (by omega), e_ix2 (by omega), e_oli2, e_add, x_h35 h8 hn m (i + 1) _ (by omega)]
    rfl
theorem x_h7 {M : j_M} {u k : Nat} (h15 : M 100 15 = nI u) (hu : u ≤ 112) : ∀ (m i : Nat) (a : Int32), i + m = u → xX10_hash_7 70 (k + m + 1) a (nI i) M = xX10_hash_35 70 fu (hf (M 71) m i a) (nI 0) M
  | 0, i, a, h => by
    rw [show k + 0 + 1 = k + 1 from rfl, xX10_hash_7.eq_2, h15, e_oli2, if_pos (by rw [e_le (by omega) (by omega)]; omega)]
    rfl
  | m + 1, i, a, h => by
    rw [show k + (m + 1) + 1 = (k + m + 1) + 1 by omega, xX10_hash_7.eq_2, h15, e_oli2, if_neg (by rw [e_le (by omega) (by omega)]; omega), e_gd (by omega) (by omega), e_ix2 (by omega), e_oli2, e_add, x_h7 h15 hu m (i + 1) _ (by omega)]
    rfl
/-- the digest of a state, and its first slot -/
def HS (S : a_S) (u : Nat) : Int32 := hfin (hf (fun j => nI (lcv (fd S j))) (S 1 7) 0 (hf (fun j => nI (cell S j)) u 0 (nI (S 1 7))))
def hq (S : a_S) (u : Nat) : Nat := (HS S u &&& nI 1023).toInt.toNat
theorem hq_ok {S : a_S} {u : Nat} : HS S u &&& nI 1023 = nI (hq S u) ∧ hq S u < 1024 := by
  unfold hq
  obtain ⟨n, hn⟩ := nI_any (HS S u)
  have e : HS S u &&& nI 1023 = nI (n % 1024) := by
    rw [hn, e_and, show (1023 : Nat) = 2 ^ 10 - 1 by rfl, Nat.and_two_pow_sub_one_eq_mod]
  rw [e, nI_toInt (by omega)]
  exact ⟨rfl, by show n % 1024 < 1024; omega⟩
theorem xs_cel {N : j_M} {t j : Nat} {S : a_S} (h : j < 112) : XS N t S (t + 1) j = nI (cell S j) := xs_r (k := 1) (by omega) (Nat.zero_le _) h
theorem x_hash {N : j_M} {S : a_S} {u : Nat} (h15 : N 100 15 = nI u) (hu : u ≤ 112) (hn : S 1 7 ≤ 240) : xX10_hash 70 (XS N 70 S) = some (HS S u, XS N 70 S) := by
  have e8 : XS N 70 S 70 8 = nI (S 1 7) := xr_0_8
  have e15 : XS N 70 S 100 15 = nI u := by rw [xs_o (by omega)]; exact h15
  unfold xX10_hash
  rw [e8, e_oli2, show fu = (999999 - u) + u + 1 by unfold fu; omega, x_h7 e15 hu u 0 _ (by omega), show fu = (999999 - S 1 7) + S 1 7 + 1 by unfold fu; omega, x_h35 e8 hn (S 1 7) 0 _ (by omega)]
  unfold HS
  rw [hf_c (g := XS N 70 S 71) (g' := fun j => nI (cell S j)) u 0 _ (fun j _ hj => xs_cel (t := 70) (by omega)), hf_c (g := XS N 70 S 72) (g' := fun j => nI (lcv (fd S j))) (S 1 7) 0 _ (fun j _ hj => xs_row (t := 70) (by omega))]
/-! ===== cells tell the core ===== -/
theorem cell_k {S T : a_S} (h : ∀ r x, cr r → S r x = T r x) (j : Nat) : cell S j = cell T j := by
  have e : ∀ r, cr r → S r = T r := fun r hr => funext (fun x => h r x hr)
  unfold cell hv ev uo ud msv
  rw [e 14 (by unfold cr; omega), e 70 (by unfold cr; omega), e 126 (by unfold cr; omega), e 182 (by unfold cr; omega), e 238 (by unfold cr; omega), e 244 (by unfold cr; omega), e 292 (by unfold cr; omega), e 298 (by unfold cr; omega), e 304 (by unfold cr; omega), e 310 (by unfold cr; omega), e 316 (by unfold cr; omega), e 358 (by unfold cr; omega), e 400 (by unfold cr; omega), e 442 (by unfold cr; omega), e 484 (by unfold cr; omega)]
theorem uo_in {S T : a_S} {c : Nat} (hS : RG S) (hT : RG T) (uS : UM S) (uT : UM T) (hc : c < 6) (h : uo S c = uo T c) : S 238 c = T 238 c ∧ ∀ k, k < 8 → S 244 (8 * c + k) = T 244 (8 * c + k) := by
  have b1 := g_8 hS 238 c (by omega)
  have b2 := g_8 hT 238 c (by omega)
  have dS : ∀ k, ud S c k ≤ 8 := fun k => by
    have := g_l hS 244 (8 * c + k) (Or.inl rfl)
    unfold ud
    split <;> omega
  have dT : ∀ k, ud T c k ≤ 8 := fun k => by
    have := g_l hT 244 (8 * c + k) (Or.inl rfl)
    unfold ud
    split <;> omega
  have ek : ∀ k, k < 8 → ud S c k = ud T c k := by
    unfold uo at h
    rw [sm_8, sm_8] at h
    have s0 := dS 0
    have s1 := dS 1
    have s2 := dS 2
    have s3 := dS 3
    have s4 := dS 4
    have s5 := dS 5
    have s6 := dS 6
    have s7 := dS 7
    have t0 := dT 0
    have t1 := dT 1
    have t2 := dT 2
    have t3 := dT 3
    have t4 := dT 4
    have t5 := dT 5
    have t6 := dT 6
    have t7 := dT 7
    generalize ud S c = f at *
    generalize ud T c = g at *
    intro k hk
    have hk8 : k = 0 ∨ k = 1 ∨ k = 2 ∨ k = 3 ∨ k = 4 ∨ k = 5 ∨ k = 6 ∨ k = 7 := by omega
    clear dS dT
    rcases hk8 with rfl | rfl | rfl | rfl | rfl | rfl | rfl | rfl <;> omega
  have en : S 238 c = T 238 c := by
    apply Classical.byContradiction
    intro q
    by_cases q1 : S 238 c < T 238 c
    · have := ek (S 238 c) (by omega)
      unfold ud at this
      rw [if_neg (by omega), if_pos q1] at this
      omega
    · have := ek (T 238 c) (by omega)
      unfold ud at this
      rw [if_pos (by omega), if_neg (by omega)] at this
      omega
  refine ⟨en, fun k hk => ?_⟩
  by_cases q : k < S 238 c
  · have := ek k hk
    unfold ud at this
    rw [if_pos q, if_pos (by omega)] at this
    omega
  · rw [(uS c hc).2 k (by omega) hk, (uT c hc).2 k (by omega) hk]
theorem cell_in {S T : a_S} {N : Nat} (hS : INV S z0) (hT : INV T z0) (hN : N ≤ 6) (h : ∀ j, j < 16 * (N + 1) → cell S j = cell T j) : ∀ r x, cr r → PRS N r x → S r x = T r x := by
  have nd : ∀ nd l, (nd < N ∨ nd = 6) → l < 8 → S 14 (8 * nd + l) = T 14 (8 * nd + l) ∧ S 70 (8 * nd + l) = T 70 (8 * nd + l) ∧ S 126 (8 * nd + l) = T 126 (8 * nd + l) ∧ S 182 (8 * nd + l) = T 182 (8 * nd + l) := by
    intro nd l h1 hl
    have hb : ∃ b, b ≤ N ∧ (b + 6) % 7 = nd := by
      rcases h1 with h1 | h1
      · exact ⟨nd + 1, by omega, by omega⟩
      · exact ⟨0, by omega, by omega⟩
    obtain ⟨b, b1, b2⟩ := hb
    have e := h (16 * b + l) (by omega)
    unfold cell at e
    rw [show (16 * b + l) % 16 = l by omega, show (16 * b + l) / 16 = b by omega, if_pos hl, if_pos hl, b2] at e
    have g1 := g_hv hS.1 (8 * nd + l)
    have g2 := g_hv hT.1 (8 * nd + l)
    unfold hv hvv at e
    omega
  have tb : ∀ md c, (md < N ∨ md = 6) → c < 6 → S 316 (6 * md + c) = T 316 (6 * md + c) ∧ S 358 (6 * md + c) = T 358 (6 * md + c) ∧ S 400 (6 * md + c) = T 400 (6 * md + c) ∧ S 442 (6 * md + c) = T 442 (6 * md + c) ∧ S 484 (6 * md + c) = T 484 (6 * md + c) := by
    intro md c h1 hc
    have hb : ∃ b, b ≤ N ∧ (b + 6) % 7 = md := by
      rcases h1 with h1 | h1
      · exact ⟨md + 1, by omega, by omega⟩
      · exact ⟨0, by omega, by omega⟩
    obtain ⟨b, b1, b2⟩ := hb
    have e := h (16 * b + (8 + c)) (by omega)
    unfold cell at e
    rw [show (16 * b + (8 + c)) % 16 = 8 + c by omega, show (16 * b + (8 + c)) / 16 = b by omega, if_neg (by omega), if_pos (by omega), if_neg (by omega), if_pos (by omega), b2, show 8 + c - 8 = c by omega] at e
    have r1 := g_ev hS.1 (6 * md + c)
    have s1 := g_ev hT.1 (6 * md + c)
    clear h nd hS hT
    unfold ev evv at e
    omega
  have us : ∀ c, c < N → S 238 c = T 238 c ∧ ∀ k, k < 8 → S 244 (8 * c + k) = T 244 (8 * c + k) := by
    intro c hc
    have e := h (16 * (c + 1) + 14) (by omega)
    unfold cell at e
    rw [show (16 * (c + 1) + 14) % 16 = 14 by omega, show (16 * (c + 1) + 14) / 16 = c + 1 by omega, if_neg (by omega), if_neg (by omega), if_neg (by omega), if_pos rfl, if_neg (by omega), if_neg (by omega), if_neg (by omega), if_pos rfl, show c + 1 - 1 = c by omega] at e
    exact uo_in hS.1 hT.1 hS.2.2.1 hT.2.2.1 (by omega) e
  have ms : ∀ c, c < N → S 292 c = T 292 c ∧ S 298 c = T 298 c ∧ S 304 c = T 304 c ∧ S 310 c = T 310 c := by
    intro c hc
    have e := h (16 * (c + 1) + 15) (by omega)
    unfold cell at e
    rw [show (16 * (c + 1) + 15) % 16 = 15 by omega, show (16 * (c + 1) + 15) / 16 = c + 1 by omega, if_neg (by omega), if_neg (by omega), if_neg (by omega), if_neg (by omega), if_neg (by omega), if_neg (by omega), if_neg (by omega), if_neg (by omega), show c + 1 - 1 = c by omega] at e
    have mS := hS.2.2.2.2.2.2.2.1
    have mT := hT.2.2.2.2.2.2.2.1
    have z1 := msv_0 (c := c) mS (by omega)
    have z2 := msv_0 (c := c) mT (by omega)
    have m1 := mS c (by omega)
    have m2 := mT c (by omega)
    by_cases q : S 292 c = 0
    · have q2 : T 292 c = 0 := z2.1 (by rw [← e]; exact z1.2 q)
      have w1 := m1.1 q
      have w2 := m2.1 q2
      omega
    · have q2 : ¬ T 292 c = 0 := fun w => q (z1.1 (by rw [e]; exact z2.2 w))
      unfold msv mvv at e
      rw [if_neg q, if_neg q2] at e
      have a1 := g_mv hS.1 c
      have b1 := g_mv hT.1 c
      clear m1 m2 z1 z2 mS mT
      omega
  intro r x hr hx
  unfold PRS at hx
  rcases hx with ⟨hx1, hx2⟩ | ⟨hx1, hx2⟩ | ⟨hx1, hx2⟩ | ⟨hx1, hx2⟩
  · have := nd (x / 8) (x % 8) (by omega) (by omega)
    rw [show 8 * (x / 8) + x % 8 = x by omega] at this
    rcases hx1 with rfl | rfl | rfl | rfl
    · exact this.1
    · exact this.2.1
    · exact this.2.2.1
    · exact this.2.2.2
  · have := ms x hx2
    rcases hx1 with rfl | rfl | rfl | rfl | rfl
    · exact (us x hx2).1
    · exact this.1
    · exact this.2.1
    · exact this.2.2.1
    · exact this.2.2.2
  · subst hx1
    have := (us (x / 8) (by omega)).2 (x % 8) (by omega)
    rw [show 8 * (x / 8) + x % 8 = x by omega] at this
    exact this
  · have := tb (x / 6) (x % 6) (by omega) (by omega)
    rw [show 6 * (x / 6) + x % 6 = x by omega] at this
    rcases hx1 with rfl | rfl | rfl | rfl | rfl
    · exact this.1
    · exact this.2.1
    · exact this.2.2.1
    · exact this.2.2.2.1
    · exact this.2.2.2.2
/-- alike to the class's eyes -/
def CEQ (K S : a_S) (u : Nat) : Prop := K 1 7 = S 1 7 ∧ (∀ j, j < S 1 7 → lcv (fd K j) = lcv (fd S j)) ∧ (∀ j, j < u → cell K j = cell S j)
theorem CEQ_k {S0 K S : a_S} (hK : NOD S0 K) (hS : NOD S0 S) (sK : SRC K) (sS : SRC S) : CEQ K S (16 * (S0 1 0 + 1)) ↔ KEQ K S := by
  have hp := NOD_par hK hS
  constructor
  · intro h
    have n6 := g_n hK.1.1
    rw [hK.2.1.1] at n6
    refine ⟨fun r x hr => ?_, hp.1, hp.2.1, hp.2.2.1, h.1, fun φ hφ => ?_⟩
    · by_cases c : PRS (S0 1 0) r x
      · exact cell_in hK.1 hS.1 n6 h.2.2 r x hr c
      · rw [hK.2.2 r x hr c, hS.2.2 r x hr c]
    · unfold mq
      rw [h.1]
      exact sm_c _ (fun i hi => hφ _ _ (lcv_in hK.1.1 hK.1.2.2.2.1 (by rw [h.1]; exact hi) hS.1.1 hS.1.2.2.2.1 hi (h.2.1 i hi)))
  · intro h
    exact ⟨h.2.2.2.2.1, fun j hj => KEQ_srt h gp_lcv sK sS j (by rw [h.2.2.2.2.1]; exact hj), fun j _ => cell_k h.1 j⟩
theorem hq_k {S T : a_S} {u : Nat} (h : CEQ S T u) : hq S u = hq T u := by
  unfold hq HS
  rw [h.1, hf_c (g := fun j => nI (cell S j)) (g' := fun j => nI (cell T j)) u 0 _ (fun j _ hj => by show nI (cell S j) = nI (cell T j); rw [h.2.2 j (by omega)]), hf_c (g := fun j => nI (lcv (fd S j))) (g' := fun j => nI (lcv (fd T j))) (T 1 7) 0 _ (fun j _ hj => by show nI (lcv (fd S j)) = nI (lcv (fd T j)); rw [h.2.1 j (by omega)])]
