/-! ===== the reference's words of a state ===== -/
def FW (S : a_S) (k : Nat) : Int32 := if k < 512 then fl (enc S) (14 + k) else if k = 512 then nI (S 1 7) else if 9 * S 1 7 ≤ k - 513 then nI 0 else fl (enc S) (586 + (k - 513))
theorem r_field {N : j_M} {S : a_S} {k : Nat} (hk : k < 729) (hq : S 1 7 ≤ 240) : xX12_fieldOf (nI k) (RS N S) = some (FW S k, RS N S) := by
  have e7 : RS N S 201 7 = nI (S 1 7) := sr_1 (by omega)
  have er : ∀ j, RS N S 201 j = fl (enc S) j := fun j => by rw [rs_201]
  unfold xX12_fieldOf FW
  by_cases c1 : k < 512
  · rw [if_neg (by rw [e_le (by omega) (by omega)]; omega), if_pos c1, e_add, e_gd (by omega) (by omega), e_ix2 (by omega), er, e_oli2]
  · rw [if_pos (by rw [e_le (by omega) (by omega)]; omega), if_neg c1, e_gd (by omega) (by omega), e_ix2 (by omega), e7, e_oli2, e_oli2]
    by_cases c2 : k = 512
    · rw [if_pos (by rw [c2]), if_pos c2]
    · rw [if_neg (by rw [e_eq (by omega) (by omega)]; exact c2), if_neg c2, e_mul, e_sub (by omega), e_sub (by omega)]
      by_cases c3 : 9 * S 1 7 ≤ k - 513
      · rw [if_pos (by rw [e_le (by omega) (by omega)]; omega), if_pos c3, e_gd (by omega) (by omega)]
      · rw [if_neg (by rw [e_le (by omega) (by omega)]; omega), if_neg c3, e_gd (by omega) (by omega), e_add, e_sub (by omega), e_sub (by omega), show 586 + k - 512 - 1 = 586 + (k - 513) by omega, e_gd (by omega) (by omega), e_ix2 (by omega), er, e_oli2]
def szc (r : Nat) : Nat := if r ≤ 182 then 56 else if r = 244 then 48 else if r ≤ 310 then 6 else 42
theorem fl_cr {W : j_M} {r x : Nat} (hr : cr r) (hx : x < szc r) : fl W (r + x) = W r x := by
  unfold cr at hr
  rcases hr with rfl | rfl | rfl | rfl | rfl | rfl | rfl | rfl | rfl | rfl | rfl | rfl | rfl | rfl | rfl
  · exact fl_14 hx
  · exact fl_70 hx
  · exact fl_126 hx
  · exact fl_182 hx
  · exact fl_238 hx
  · exact fl_244 hx
  · exact fl_292 hx
  · exact fl_298 hx
  · exact fl_304 hx
  · exact fl_310 hx
  · exact fl_316 hx
  · exact fl_358 hx
  · exact fl_400 hx
  · exact fl_442 hx
  · exact fl_484 hx
theorem core_lt {S : a_S} (h : RG S) (r x : Nat) (hr : cr r) : S r x < 20000 := by
  unfold cr at hr
  rcases hr with rfl | rfl | rfl | rfl | rfl | rfl | rfl | rfl | rfl | rfl | rfl | rfl | rfl | rfl | rfl
  · have := g_14 h x; omega
  · have := g_b h 70 x (by omega); omega
  · have := g_b h 126 x (by omega); omega
  · have := g_d h 182 x (by omega); omega
  · have := g_8 h 238 x (by omega); omega
  · have := g_l h 244 x (by omega); omega
  · have := g_8 h 292 x (by omega); omega
  · have := g_4 h 298 x (by omega); omega
  · have := g_d h 304 x (by omega); omega
  · have := g_b h 310 x (by omega); omega
  · have := g_t h 316 x (by omega); omega
  · have := g_b h 358 x (by omega); omega
  · have := g_l h 400 x (by omega); omega
  · have := g_4 h 442 x (by omega); omega
  · have := g_b h 484 x (by omega); omega
theorem enc_in {S T : a_S} {r x : Nat} (hS : S r x < 20000) (hT : T r x < 20000) (h : enc S r x = enc T r x) : S r x = T r x := by
  unfold enc at h
  have o : ∀ a b : Nat, a < 20000 → b < 20000 → oI a = oI b → a = b := by
    intro a b ha hb h
    have := (ec6_eq (k := 6) ha hb).1
    unfold ec6 at this
    rw [if_pos (by decide), if_pos (by decide)] at this
    exact this h
  by_cases c : r = 292 ∨ r = 538 ∨ (r = 586 ∧ x % 9 = 6)
  · rw [if_pos c, if_pos c] at h
    exact o _ _ hS hT h
  · rw [if_neg c, if_neg c, e_eq (by omega) (by omega)] at h
    exact h
theorem PRS_sz {N r x : Nat} (h : PRS N r x) (hN : N ≤ 6) : x < szc r ∧ 14 ≤ r + x ∧ r + x < 526 := by
  unfold PRS at h
  unfold szc
  rcases h with ⟨h1, h2⟩ | ⟨h1, h2⟩ | ⟨h1, h2⟩ | ⟨h1, h2⟩
  · rw [if_pos (by omega)]; omega
  · rw [if_neg (by omega), if_neg (by omega), if_pos (by omega)]; omega
  · rw [if_neg (by omega), if_pos h1]; omega
  · rw [if_neg (by omega), if_neg (by omega), if_neg (by omega)]; omega
theorem rgW_c {j : Nat} (h1 : 14 ≤ j) (h2 : j < 526) : cr (rgW j) := by
  have hd : (14 ≤ j ∧ j < 70) ∨ (70 ≤ j ∧ j < 126) ∨ (126 ≤ j ∧ j < 182) ∨ (182 ≤ j ∧ j < 238) ∨ (238 ≤ j ∧ j < 244) ∨ (244 ≤ j ∧ j < 292) ∨ (292 ≤ j ∧ j < 298) ∨ (298 ≤ j ∧ j < 304) ∨ (304 ≤ j ∧ j < 310) ∨ (310 ≤ j ∧ j < 316) ∨ (316 ≤ j ∧ j < 358) ∨ (358 ≤ j ∧ j < 400) ∨ (400 ≤ j ∧ j < 442) ∨ (442 ≤ j ∧ j < 484) ∨ (484 ≤ j ∧ j < 526) := by omega
  rcases hd with h | h | h | h | h | h | h | h | h | h | h | h | h | h | h
  · rw [show j = 14 + (j - 14) by omega, rg_14 (k := j - 14) (by omega)]; unfold cr; omega
  · rw [show j = 70 + (j - 70) by omega, rg_70 (k := j - 70) (by omega)]; unfold cr; omega
  · rw [show j = 126 + (j - 126) by omega, rg_126 (k := j - 126) (by omega)]; unfold cr; omega
  · rw [show j = 182 + (j - 182) by omega, rg_182 (k := j - 182) (by omega)]; unfold cr; omega
  · rw [show j = 238 + (j - 238) by omega, rg_238 (k := j - 238) (by omega)]; unfold cr; omega
  · rw [show j = 244 + (j - 244) by omega, rg_244 (k := j - 244) (by omega)]; unfold cr; omega
  · rw [show j = 292 + (j - 292) by omega, rg_292 (k := j - 292) (by omega)]; unfold cr; omega
  · rw [show j = 298 + (j - 298) by omega, rg_298 (k := j - 298) (by omega)]; unfold cr; omega
  · rw [show j = 304 + (j - 304) by omega, rg_304 (k := j - 304) (by omega)]; unfold cr; omega
  · rw [show j = 310 + (j - 310) by omega, rg_310 (k := j - 310) (by omega)]; unfold cr; omega
  · rw [show j = 316 + (j - 316) by omega, rg_316 (k := j - 316) (by omega)]; unfold cr; omega
  · rw [show j = 358 + (j - 358) by omega, rg_358 (k := j - 358) (by omega)]; unfold cr; omega
  · rw [show j = 400 + (j - 400) by omega, rg_400 (k := j - 400) (by omega)]; unfold cr; omega
  · rw [show j = 442 + (j - 442) by omega, rg_442 (k := j - 442) (by omega)]; unfold cr; omega
  · rw [show j = 484 + (j - 484) by omega, rg_484 (k := j - 484) (by omega)]; unfold cr; omega
theorem fl_6 {S : a_S} {k : Nat} (h : k < 2160) : fl (enc S) (586 + k) = ec6 k (S 586 k) := by
  rw [fl_586 h]
  unfold enc ec6
  by_cases c : k % 9 = 6
  · rw [if_pos (by omega), if_pos c]
  · rw [if_neg (by omega), if_neg c]
def FWE (K S : a_S) : Prop := ∀ k, k < 729 → FW K k = FW S k
theorem FWE_k {S0 K S : a_S} (hK : NOD S0 K) (hS : NOD S0 S) (sK : SRL K) (sS : SRL S) (h24 : K 1 7 ≤ 24) (h24' : S 1 7 ≤ 24) : FWE K S ↔ KEQ K S := by
  have hp := NOD_par hK hS
  constructor
  · intro h
    have n6 := g_n hK.1.1
    rw [hK.2.1.1] at n6
    have e7 : K 1 7 = S 1 7 := by
      have := h 512 (by omega)
      unfold FW at this
      rw [if_neg (by omega), if_pos rfl, if_neg (by omega), if_pos rfl, e_eq (by omega) (by omega)] at this
      exact this
    refine ⟨fun r x hr => ?_, hp.1, hp.2.1, hp.2.2.1, e7, fun φ hφ => ?_⟩
    · by_cases c : PRS (S0 1 0) r x
      · have sz := PRS_sz c n6
        have := h (r + x - 14) (by omega)
        unfold FW at this
        rw [if_pos (by omega), if_pos (by omega), show 14 + (r + x - 14) = r + x by omega, fl_cr hr sz.1, fl_cr hr sz.1] at this
        exact enc_in (core_lt hK.1.1 r x hr) (core_lt hS.1.1 r x hr) this
      · rw [hK.2.2 r x hr c, hS.2.2 r x hr c]
    · unfold mq
      rw [e7]
      refine sm_c _ (fun i hi => hφ _ _ (fun j hj => ?_))
      have := h (513 + (9 * i + j)) (by omega)
      unfold FW at this
      rw [if_neg (by omega), if_neg (by omega), if_neg (by omega), if_neg (by omega), if_neg (by omega), if_neg (by omega), show 513 + (9 * i + j) - 513 = 9 * i + j by omega, fl_6 (by omega), fl_6 (by omega)] at this
      have b1 := fd_lt hK.1.1 i j hj
      have b2 := fd_lt hS.1.1 i j hj
      have b1' : K 586 (9 * i + j) < 16384 := b1
      have b2' : S 586 (9 * i + j) < 16384 := b2
      exact (ec6_eq (by omega) (by omega)).1 this
  · intro h k hk
    have hl := KEQ_srt h gp_lk sK sS
    have e7 := h.2.2.2.2.1
    unfold FW
    by_cases c1 : k < 512
    · rw [if_pos c1, if_pos c1]
      have hc := rgW_c (j := 14 + k) (by omega) (by omega)
      unfold fl enc
      rw [h.1 _ _ hc]
    · rw [if_neg c1, if_neg c1, e7]
      by_cases c2 : k = 512
      · rw [if_pos c2, if_pos c2]
      · rw [if_neg c2, if_neg c2]
        by_cases c3 : 9 * S 1 7 ≤ k - 513
        · rw [if_pos c3, if_pos c3]
        · rw [if_neg c3, if_neg c3, fl_6 (by omega), fl_6 (by omega)]
          have := lk_in hK.1.1 hS.1.1 (hl ((k - 513) / 9) (by omega)) ((k - 513) % 9) (by omega)
          unfold fd at this
          rw [show 9 * ((k - 513) / 9) + (k - 513) % 9 = k - 513 by omega] at this
          rw [this]
def STW (N : j_M) (s : Nat) (K : a_S) : Prop := ∀ k, k < 729 → N 211 (729 * s + k) = FW K k
theorem r_is2 {N : j_M} {S K : a_S} {s f : Nat} (hs : s < 251) (hq : S 1 7 ≤ 240) (hw : STW N s K) : ∀ (m k : Nat), k + m = 729 → ∃ z, xX12_isState_2 (f + m + 1) (nI s) (nI k) (RS N S) = some (nI z, RS N S) ∧ ((z = 1 ∧ ∀ j, k ≤ j → j < 729 → FW K j = FW S j) ∨ (z = 0 ∧ ∃ j, j < 729 ∧ FW K j ≠ FW S j))
  | 0, k, h => by
    refine ⟨1, ?_, Or.inl ⟨rfl, fun j h1 h2 => by omega⟩⟩
    rw [show f + 0 + 1 = f + 1 from rfl, xX12_isState_2.eq_2, if_pos (by rw [e_le (by omega) (by omega)]; omega)]
  | m + 1, k, h => by
    have st : xX12_isState_2 (f + (m + 1) + 1) (nI s) (nI k) (RS N S) = if FW K k = FW S k then xX12_isState_2 (f + m + 1) (nI s) (nI (k + 1)) (RS N S) else some (nI 0, RS N S) := by
      rw [show f + (m + 1) + 1 = (f + m + 1) + 1 by omega, xX12_isState_2.eq_2, if_neg (by rw [e_le (by omega) (by omega)]; omega), e_mul, e_add, e_gd (by omega) (by omega), e_ix2 (by omega), rs_o (by omega), hw k (by omega), e_oli2, r_field (by omega) hq, e_obi2, e_add]
    rw [st]
    by_cases q : FW K k = FW S k
    · rw [if_pos q]
      obtain ⟨z, e, hz⟩ := r_is2 (f := f) hs hq hw m (k + 1) (by omega)
      refine ⟨z, e, ?_⟩
      rcases hz with ⟨z1, hz⟩ | hz
      · refine Or.inl ⟨z1, fun j h1 h2 => ?_⟩
        by_cases w : j = k
        · rw [w, q]
        · exact hz j (by omega) h2
      · exact Or.inr hz
    · rw [if_neg q]
      exact ⟨0, rfl, Or.inr ⟨rfl, k, by omega, q⟩⟩
theorem r_isState {N : j_M} {S K : a_S} {s : Nat} (hs : s < 251) (hq : S 1 7 ≤ 240) (hw : STW N s K) : ∃ z, xX12_isState (nI s) (RS N S) = some (nI z, RS N S) ∧ ((z = 1 ∧ FWE K S) ∨ (z = 0 ∧ ¬ FWE K S)) := by
  obtain ⟨z, e, hz⟩ := r_is2 (f := 999270) hs hq hw 729 0 (by omega)
  refine ⟨z, ?_, ?_⟩
  · unfold xX12_isState
    rw [show fu = 999270 + 729 + 1 by unfold fu; omega]
    exact e
  · rcases hz with ⟨z1, hz⟩ | ⟨z1, j, j1, j2⟩
    · exact Or.inl ⟨z1, fun k hk => hz k (Nat.zero_le _) hk⟩
    · exact Or.inr ⟨z1, fun q => j2 (q j j1)⟩
/-- the reference's table of states -/
def RKR (N : j_M) (S0 : a_S) (n : Nat) (κ : Nat → a_S) (d : Nat → Nat) : Prop := n ≤ 250 ∧ N 200 29 = nI n ∧ ∀ s, s < n → STW N s (κ s) ∧ N 212 s = nI (d s) ∧ NOD S0 (κ s) ∧ SRL (κ s) ∧ κ s 1 7 ≤ 24
theorem RKR_e {N N' : j_M} {S0 : a_S} {n : Nat} {κ : Nat → a_S} {d : Nat → Nat} (h : RKR N S0 n κ d) (h1 : N' 200 29 = N 200 29) (h2 : N' 211 = N 211) (h3 : N' 212 = N 212) : RKR N' S0 n κ d := by
  unfold RKR STW at h ⊢
  rw [h1, h2, h3]
  exact h
theorem r_68 {S : a_S} {n a f : Nat} (hn : n < 250) (hq : S 1 7 ≤ 240) : ∀ (m k : Nat) (N : j_M), k + m = 729 → N 200 29 = nI n → ∃ N', xX12_stateNow_68 (f + m + 1) (nI a) (nI k) (RS N S) = some (nI n, RS N' S) ∧ N' 200 29 = nI (n + 1) ∧ (∀ j, j ≠ 29 → N' 200 j = N 200 j) ∧ N' 212 n = nI a ∧ (∀ j, j ≠ n → N' 212 j = N 212 j) ∧ (∀ j, k ≤ j → j < 729 → N' 211 (729 * n + j) = FW S j) ∧ (∀ j, j < 729 * n + k → N' 211 j = N 211 j) ∧ (∀ x, x ≠ 200 → x ≠ 211 → x ≠ 212 → N' x = N x) := by
  intro m
  induction m with
  | zero =>
    intro k N hk h29
    refine ⟨mw (mw N 212 n (nI a)) 200 29 (nI (n + 1)), ?_, mw_at (by omega), fun j hj => by rw [mw_ne hj, mw_oth (by omega)], by rw [mw_oth (by omega), mw_at (by omega)], fun j hj => by rw [mw_oth (by omega), mw_ne hj], fun j h1 h2 => by omega, fun j hj => by rw [mw_oth (by omega), mw_oth (by omega)], fun x h1 h2 h3 => by rw [mw_oth h1, mw_oth h3]⟩
    rw [xX12_stateNow_68.eq_2, if_pos (by rw [e_le (by omega) (by omega)]; omega), rs_o (by omega), h29, e_oli2, e_gd (by omega) (by omega), e_ix2 (by omega), rs_wo (by omega), e_oml2, rs_o (by omega), mw_oth (by omega), h29, e_oli2, rs_wo (by omega), e_oml2, rs_o (by omega), e_add, mw_at (by omega), e_oli2, e_sub (by omega), show n + 1 - 1 = n by omega]
  | succ m ih =>
    intro k N hk h29
    obtain ⟨N', g1, g2, g3, g4, g5, g6, g7, g8⟩ := ih (k + 1) (mw N 211 (729 * n + k) (FW S k)) (by omega) (by rw [mw_oth (by omega)]; exact h29)
    refine ⟨N', ?_, g2, fun j hj => by rw [g3 j hj, mw_oth (by omega)], g4, fun j hj => by rw [g5 j hj, mw_oth (by omega)], fun j h1 h2 => ?_, fun j hj => by rw [g7 j (by omega), mw_ne (by omega)], fun x h1 h2 h3 => by rw [g8 x h1 h2 h3, mw_oth h2]⟩
    · rw [← g1, show f + (m + 1) + 1 = (f + m + 1) + 1 by omega, xX12_stateNow_68.eq_2, if_neg (by rw [e_le (by omega) (by omega)]; omega), rs_o (by omega), h29, e_oli2, r_field (by omega) hq, e_obi2, e_mul, e_add, e_gd (by omega) (by omega), e_ix2 (by omega), rs_wo (by omega), e_oml2, e_add]
    · by_cases c : j = k
      · rw [c, g7 (729 * n + k) (by omega), mw_at (by omega)]
      · exact g6 j (by omega) h2
theorem r_sn25 {N : j_M} {S0 S : a_S} {n a f : Nat} {κ : Nat → a_S} {d : Nat → Nat} (hw : RKR N S0 n κ d) (hS : NOD S0 S) (sS : SRL S) (h24 : S 1 7 ≤ 24) : ∀ (m s : Nat), s + m = n → (∀ t, t < s → ¬ KEQ (κ t) S) → (∃ t, t < n ∧ KEQ (κ t) S ∧ xX12_stateNow_25 (f + m + 1) (nI a) (nI s) (RS N S) = some (nI t, RS N S)) ∨ ((∀ t, t < n → ¬ KEQ (κ t) S) ∧ xX12_stateNow_25 (f + m + 1) (nI a) (nI s) (RS N S) = if n = 250 then some (-1, RS (mw N 200 31 (nI 1)) S) else xX12_stateNow_68 fu (nI a) (nI 0) (RS N S)) := by
  intro m
  induction m with
  | zero =>
    intro s hs hne
    have : s = n := by omega
    subst this
    refine Or.inr ⟨hne, ?_⟩
    have h250 := hw.1
    rw [xX12_stateNow_25.eq_2, rs_o (by omega), hw.2.1, e_oli2, if_pos (by rw [e_le (by omega) (by omega)]; omega), e_oli2, f_eq (by omega) (by omega), e_gz1, rs_wo (by omega), e_oml2]
  | succ m ih =>
    intro s hs hne
    have h250 := hw.1
    obtain ⟨b1, b2, b3, b4, b5⟩ := hw.2.2 s (by omega)
    obtain ⟨z, e1, hz⟩ := r_isState (N := N) (S := S) (s := s) (by omega) (by omega) b1
    have st : xX12_stateNow_25 (f + (m + 1) + 1) (nI a) (nI s) (RS N S) = if nI z = (0 : Int32) then xX12_stateNow_25 (f + m + 1) (nI a) (nI (s + 1)) (RS N S) else some (nI s, RS N S) := by
      rw [show f + (m + 1) + 1 = (f + m + 1) + 1 by omega, xX12_stateNow_25.eq_2, rs_o (by omega), hw.2.1, e_oli2, if_neg (by rw [e_le (by omega) (by omega)]; omega), e1, e_obi2, e_add]
    rw [st]
    rcases hz with ⟨rfl, hz⟩ | ⟨rfl, hz⟩
    · rw [if_neg (by decide)]
      exact Or.inl ⟨s, by omega, (FWE_k b3 hS b4 sS b5 h24).1 hz, rfl⟩
    · rw [if_pos (by decide)]
      refine ih (s + 1) (by omega) (fun t ht => ?_)
      by_cases w : t = s
      · rw [w]
        exact fun hk => hz ((FWE_k b3 hS b4 sS b5 h24).2 hk)
      · exact hne t (by omega)
theorem r_stateNow {N : j_M} {S0 S : a_S} {n a : Nat} {κ : Nat → a_S} {d : Nat → Nat} (hw : RKR N S0 n κ d) (hS : NOD S0 S) : (24 < S 1 7 ∧ xX12_stateNow (nI a) (RS N S) = some (-1, RS (mw N 200 31 (nI 1)) S)) ∨ (S 1 7 ≤ 24 ∧ ∃ S', PRM S S' ∧ ((∃ t, t < n ∧ KEQ (κ t) S' ∧ xX12_stateNow (nI a) (RS N S) = some (nI t, RS N S')) ∨ ((∀ t, t < n → ¬ KEQ (κ t) S') ∧ n < 250 ∧ SRL S' ∧ ∃ N', xX12_stateNow (nI a) (RS N S) = some (nI n, RS N' S') ∧ RKR N' S0 (n + 1) (kup κ n S') (dup d n a) ∧ (∀ j, j ≠ 29 → N' 200 j = N 200 j) ∧ (∀ x, x ≠ 200 → x ≠ 211 → x ≠ 212 → N' x = N x)) ∨ ((∀ t, t < n → ¬ KEQ (κ t) S') ∧ n = 250 ∧ xX12_stateNow (nI a) (RS N S) = some (-1, RS (mw N 200 31 (nI 1)) S')))) := by
  have hq := INV_q hS.1
  have e7 : RS N S 201 7 = nI (S 1 7) := sr_1 (by omega)
  by_cases c24 : S 1 7 ≤ 24
  · right
    refine ⟨c24, ?_⟩
    obtain ⟨S', e1, p1, s1⟩ := r_sorts (N := N) hS.1
    have hS' := NOD_prm hS p1
    have h7 : S' 1 7 = S 1 7 := p1.1 1 7 (by omega)
    have h250 := hw.1
    have e2 : xX12_stateNow (nI a) (RS N S) = xX12_stateNow_25 (999999 - n + n + 1) (nI a) (nI 0) (RS N S') := by
      unfold xX12_stateNow
      rw [e_gd (by omega) (by omega), e_ix2 (by omega), e7, e_oli2, if_pos (by rw [e_le (by omega) (by omega)]; exact c24), e1, e_obv2, show 999999 - n + n + 1 = fu by unfold fu; omega]
    refine ⟨S', p1, ?_⟩
    rcases r_sn25 (a := a) (f := 999999 - n) hw hS' s1 (by omega) n 0 (by omega) (fun t ht => absurd ht (Nat.not_lt_zero _)) with ⟨t, ht, hk, e3⟩ | ⟨hne, e3⟩
    · exact Or.inl ⟨t, ht, hk, by rw [e2, e3]⟩
    · by_cases cn : n = 250
      · rw [if_pos cn] at e3
        exact Or.inr (Or.inr ⟨hne, cn, by rw [e2, e3]⟩)
      · rw [if_neg cn] at e3
        obtain ⟨N', g1, g2, g3, g4, g5, g6, g7, g8⟩ := r_68 (S := S') (n := n) (a := a) (f := 999270) (by omega) (by omega) 729 0 N (by omega) hw.2.1
        rw [show 999270 + 729 + 1 = fu by unfold fu; omega] at g1
        refine Or.inr (Or.inl ⟨hne, by omega, s1, N', by rw [e2, e3, g1], ⟨by omega, g2, fun s hs => ?_⟩, g3, g8⟩)
        unfold kup dup
        by_cases c : s = n
        · rw [if_pos c, if_pos c, c]
          exact ⟨fun k hk => g6 k (Nat.zero_le _) hk, g4, hS', s1, by omega⟩
        · rw [if_neg c, if_neg c, g5 s c]
          obtain ⟨b1, b2⟩ := hw.2.2 s (by omega)
          exact ⟨fun k hk => by rw [g7 _ (by omega)]; exact b1 k hk, b2⟩
  · left
    refine ⟨by omega, ?_⟩
    unfold xX12_stateNow
    rw [e_gd (by omega) (by omega), e_ix2 (by omega), e7, e_oli2, if_neg (by rw [e_le (by omega) (by omega)]; omega), e_gz1, rs_wo (by omega), e_oml2]
