/-! ===== giving keeps what always holds ===== -/
theorem fo_mem {S : a_S} {c l : Nat} : ∀ k, k < a_forget S c l 238 c → ∃ k', k' < S 238 c ∧ a_forget S c l 244 (8 * c + k) = S 244 (8 * c + k') := by
  intro k hk
  rw [fo_238] at hk
  unfold a_forget
  by_cases h0 : a_used S c l = 0
  · rw [if_pos h0] at hk ⊢
    exact ⟨k, hk, rfl⟩
  · rw [if_neg h0] at hk ⊢
    unfold a_shift
    rw [if_pos rfl]
    by_cases c1 : 8 * c + (a_used S c l - 1) ≤ 8 * c + k ∧ 8 * c + k < 8 * c + (S 238 c - 1)
    · rw [if_pos c1, sw_r (by omega)]
      exact ⟨k + 1, by omega, by rw [show 8 * c + (k + 1) = 8 * c + k + 1 by omega]⟩
    · have c2 : ¬ 8 * c + k = 8 * c + (S 238 c - 1) := by omega
      rw [if_neg c1, if_neg c2, sw_r (by omega)]
      exact ⟨k, by omega, rfl⟩
theorem fo_zero {S : a_S} {c l : Nat} (hz : ∀ k, S 238 c ≤ k → k < 8 → S 244 (8 * c + k) = 0) : ∀ k, a_forget S c l 238 c ≤ k → k < 8 → a_forget S c l 244 (8 * c + k) = 0 := by
  intro k hk hk8
  rw [fo_238] at hk
  unfold a_forget
  by_cases h0 : a_used S c l = 0
  · rw [if_pos h0] at hk ⊢
    exact hz k hk hk8
  · have hu : a_used S c l ≤ S 238 c := by have := fr_le (P := fun k => S 244 (8 * c + k) = l) (S 238 c) 0; unfold a_used; omega
    rw [if_neg h0] at hk ⊢
    unfold a_shift
    rw [if_pos rfl]
    by_cases c2 : 8 * c + k = 8 * c + (S 238 c - 1)
    · rw [if_neg (by omega), if_pos c2]
    · rw [if_neg (by omega), if_neg c2, sw_r (by omega)]
      exact hz k (by omega) hk8
theorem fo_oth {S : a_S} {c d l : Nat} (h : c ≠ d) : a_forget S d l 238 c = S 238 c := by
  unfold a_forget
  split
  · rfl
  · unfold a_shift
    rw [if_neg (by omega), sw_i h]
theorem fo_oth2 {S : a_S} {c d l k : Nat} (h : c ≠ d) (hk : k < 8) (h8 : S 238 d ≤ 8) : a_forget S d l 244 (8 * c + k) = S 244 (8 * c + k) := by
  unfold a_forget
  by_cases h0 : a_used S d l = 0
  · rw [if_pos h0]
  · have hu : a_used S d l ≤ S 238 d := by have := fr_le (P := fun k => S 244 (8 * d + k) = l) (S 238 d) 0; unfold a_used; omega
    rw [if_neg h0]
    unfold a_shift
    rw [if_pos rfl]
    have c1 : ¬ (8 * d + (a_used S d l - 1) ≤ 8 * c + k ∧ 8 * c + k < 8 * d + (S 238 d - 1)) := by omega
    have c2 : ¬ 8 * c + k = 8 * d + (S 238 d - 1) := by omega
    rw [if_neg c1, if_neg c2, sw_r (by omega)]
theorem UM_gives {S : a_S} {nd t l mn ow da : Nat} (hr : RG S) (hu : UD S) (h : UM S) (hq : S 1 7 < 240) (hd : nd < 7) (ht : t < 7) (hl : l < 8) (how : ow < 2) (hm : mn ≤ S 14 (8 * nd + l)) : UM (a_gives S nd t l mn ow da) := by
  have e1 := RG_gives1 (da := da) hr hq hd ht hl how hm
  have e2 : RG (a_gives2 S nd t l mn ow da) := by
    unfold a_gives2
    exact RG_sw (RG_sw e1 (by unfold rg; omega)) (by unfold rg; omega)
  have u2 : UD (a_gives2 S nd t l mn ow da) := UD_c hu (fun i => ag2_o (by omega)) (fun i => ag2_o (by omega))
  intro c hc
  have hc1 := h c hc
  have hl9 := fun k => g_l hr 244 (8 * c + k) (Or.inl rfl)
  by_cases h0 : S 14 (8 * nd + l) - mn = 0 ∧ nd ≠ 6
  · have eg : ∀ r i, r = 238 ∨ r = 244 → a_gives S nd t l mn ow da r i = a_forget (a_gives2 S nd t l mn ow da) nd l r i := by
      intro r i _
      unfold a_gives
      rw [if_pos h0.1, if_neg h0.2]
    have z2 : ∀ k, a_gives2 S nd t l mn ow da 238 c ≤ k → k < 8 → a_gives2 S nd t l mn ow da 244 (8 * c + k) = 0 := by
      intro k
      rw [ag2_o (by omega), ag2_o (by omega)]
      exact hc1.2 k
    have h8 := g_8 e2 238 nd (Or.inl rfl)
    rw [eg 238 c (by omega)]
    by_cases hcn : c = nd
    · subst hcn
      refine ⟨fun k hk => ?_, fun k hk hk8 => ?_⟩
      · obtain ⟨k', hk', ek⟩ := fo_mem k hk
        have hn := fo_not (l := l) e2 hc u2 k hk
        rw [eg 244 _ (by omega)]
        rw [ek, ag2_o (by omega)] at hn ⊢
        rw [ag2_o (by omega)] at hk'
        rw [ag_p (by omega) (by omega)]
        exact hc1.1 k' hk'
      · rw [eg 244 _ (by omega)]
        exact fo_zero z2 k hk hk8
    · rw [fo_oth hcn, ag2_o (by omega)]
      have h88 := g_8 hr 238 c (Or.inl rfl)
      refine ⟨fun k hk => ?_, fun k hk hk8 => ?_⟩
      · have := hl9 k
        rw [eg 244 _ (by omega), fo_oth2 hcn (by omega) h8, ag2_o (by omega), ag_p (by omega) (by omega)]
        exact hc1.1 k hk
      · rw [eg 244 _ (by omega), fo_oth2 hcn hk8 h8, ag2_o (by omega)]
        exact hc1.2 k hk hk8
  · have eg : ∀ r i, r = 238 ∨ r = 244 → a_gives S nd t l mn ow da r i = S r i := by
      intro r i hr9
      unfold a_gives
      by_cases h00 : S 14 (8 * nd + l) - mn = 0
      · have h6 : nd = 6 := by omega
        rw [if_pos h00, if_pos h6, ag2_o (by omega)]
      · rw [if_neg h00, ag1_o (by omega)]
    rw [eg 238 c (by omega)]
    refine ⟨fun k hk => ?_, fun k hk hk8 => ?_⟩
    · have := hl9 k
      rw [eg 244 _ (by omega)]
      by_cases hx : 8 * c + S 244 (8 * c + k) = 8 * nd + l
      · rw [hx, ag_c]
        omega
      · rw [ag_p (by omega) hx]
        exact hc1.1 k hk
    · rw [eg 244 _ (by omega)]
      exact hc1.2 k hk hk8
theorem ag_586 {S : a_S} {nd t l mn ow da i : Nat} : a_gives S nd t l mn ow da 586 i = a_send S nd t 3 l mn ow (if da = 0 then 0 else S 182 (8 * nd + l) + 1) 0 0 586 i := by
  have e1 : a_gives1 S nd t l mn ow da 586 i = a_send S nd t 3 l mn ow (if da = 0 then 0 else S 182 (8 * nd + l) + 1) 0 0 586 i := by
    unfold a_gives1 a_gives0
    split
    · rw [sw_r (by omega)]
    · rw [sw_r (by omega), sw_r (by omega)]
  have e2 : a_gives2 S nd t l mn ow da 586 i = a_send S nd t 3 l mn ow (if da = 0 then 0 else S 182 (8 * nd + l) + 1) 0 0 586 i := by
    unfold a_gives2
    rw [sw_r (by omega), sw_r (by omega), e1]
  unfold a_gives
  split
  · split
    · exact e2
    · rw [fo_o (by omega), e2]
  · exact e1
theorem mq_gives {S : a_S} {nd t l mn ow da : Nat} {φ : (Nat → Nat) → Nat} (hφ : gp φ) : mq (a_gives S nd t l mn ow da) φ = mq S φ + φ (fl9 nd t 3 l mn ow (if da = 0 then 0 else S 182 (8 * nd + l) + 1) 0 0) := by
  rw [← mq_send hφ]
  exact mq_c (fun i => ag_586) (by rw [ag_7, as_7])
theorem tkn_gives {S : a_S} {nd t l mn ow da x : Nat} (hd : nd < 7) (hl : l < 8) (hx : x < 8) (hm : mn ≤ S 14 (8 * nd + l)) : tkn (a_gives S nd t l mn ow da) x = tkn S x := by
  unfold tkn
  rw [mq_gives (gp_t x)]
  have e : wt x (fl9 nd t 3 l mn ow (if da = 0 then 0 else S 182 (8 * nd + l) + 1) 0 0) = if l = x then mn else 0 := rfl
  rw [e]
  by_cases h : l = x
  · subst h
    have e1 := sm_one (g := fun n => S 14 (8 * n + l)) (g' := fun n => a_gives S nd t l mn ow da 14 (8 * n + l)) 7 hd (fun i _ hn => ag_p (by omega) (by omega))
    rw [ag_c] at e1
    rw [if_pos rfl]
    omega
  · rw [if_neg h, sm_c 7 (fun n _ => ag_p (by omega) (by omega))]
    omega
theorem INV_gives {S : a_S} {h : Nat → Nat} {nd t l mn ow da : Nat} (hi : INV S h) (hd : nd < 7) (ht : t < 7) (hl : l < 8) (how : ow < 2) (hm : mn ≤ S 14 (8 * nd + l)) (h1 : 1 ≤ mn) (hne : nd ≠ t) (hnN : nd < S 1 0 ∨ nd = 6) (htN : t < S 1 0 ∨ t = 6) : INV (a_gives S nd t l mn ow da) h := by
  have hq := INV_q hi
  obtain ⟨i1, i2, i3, i4, i5, i6, i7, i8, i9, i10, i11⟩ := hi
  refine ⟨RG_gives i1 (by omega) hd ht hl how hm, UD_gives i1 i2 (by omega) hd ht hl how hm, UM_gives i1 i2 i3 (by omega) hd ht hl how hm, ?_, ?_, ?_, SC_c i7 (fun i hi => ag_1 (by omega)), MS_c i8 (fun i => ag_o (by omega)) (fun i => ag_o (by omega)) (fun i => ag_o (by omega)) (fun i => ag_o (by omega)) (ag_1 (by omega)), HG_c i9 (fun i => ag_o (by omega)) (fun i => ag_o (by omega)), TI_c i10 (fun i => ag_o (by omega)) (fun i => ag_o (by omega)) (fun c _ => ag_o (by omega)) (ag_1 (by omega)), SU_c i11 (fun i => ag_o (by omega)) (ag_1 (by omega)) (ag_1 (by omega)) (ag_1 (by omega))⟩
  · refine VM_c (VM_send (f := nd) (t := t) (k := 3) (l := l) (mn := mn) (ow := ow) (wi := if da = 0 then 0 else S 182 (8 * nd + l) + 1) (nt := 0) (wh := 0) i4 ?_) (fun i => ag_586) (by rw [ag_7, as_7]) (by rw [ag_1 (by omega), as_1 (by omega)])
    show 1 ≤ 3 ∧ 3 ≤ 5 ∧ (3 = 3 → 1 ≤ mn ∧ 0 = 0 ∧ 0 = 0) ∧ (3 ≠ 3 → mn = 0 ∧ ow = 0 ∧ (if da = 0 then 0 else S 182 (8 * nd + l) + 1) = 0 ∧ nd < 6) ∧ (3 ≤ 2 → 0 = 0 ∧ 0 = 0) ∧ (3 = 5 → 0 = 0) ∧ nd ≠ t ∧ (nd < S 1 0 ∨ nd = 6) ∧ (t < S 1 0 ∨ t = 6)
    refine ⟨by omega, by omega, fun _ => ⟨h1, rfl, rfl⟩, fun h9 => absurd rfl h9, fun _ => ⟨rfl, rfl⟩, fun _ => rfl, hne, hnN, htN⟩
  · intro x hx
    rw [tkn_gives hd hl hx hm, ag_1 (by omega)]
    exact i5 x hx
  · refine ⟨?_, fun c hc => ?_⟩
    · rw [mq_gives gp_a]
      exact i6.1
    · have e4 : wk 4 c (fl9 nd t 3 l mn ow (if da = 0 then 0 else S 182 (8 * nd + l) + 1) 0 0) = 0 := if_neg (fun h9 => absurd h9.2 (by show ¬ 3 = 4; omega))
      have e5 : wk 5 c (fl9 nd t 3 l mn ow (if da = 0 then 0 else S 182 (8 * nd + l) + 1) 0 0) = 0 := if_neg (fun h9 => absurd h9.2 (by show ¬ 3 = 5; omega))
      rw [mq_gives (gp_k 4 c), mq_gives (gp_k 5 c), e4, e5, ag_o (by omega)]
      exact i6.2 c hc
theorem INV_givesAll {S : a_S} {h : Nat → Nat} {nd t l : Nat} (hi : INV S h) (hd : nd < 7) (ht : t < 7) (hl : l < 8) (h1 : S 14 (8 * nd + l) ≠ 0) (hne : nd ≠ t) (hnN : nd < S 1 0 ∨ nd = 6) (htN : t < S 1 0 ∨ t = 6) : INV (a_givesAll S nd t l) h :=
  INV_gives hi hd ht hl (g_b hi.1 70 _ (Or.inl rfl)) (Nat.le_refl _) (by omega) hne hnN htN
theorem INV_settles {S : a_S} {h : Nat → Nat} {nd l : Nat} (hi : INV S h) (hd : nd < 7) (hl : l < 8) (hnN : nd < S 1 0 ∨ nd = 6) : INV (a_settles S nd l) h := by
  have h1 := g_n hi.1
  have h2 := g_turn (S := S) (nd := nd) (l := l)
  unfold a_settles
  split
  · exact hi
  · split
    · exact INV_givesAll hi hd (by omega) hl (by omega) (by omega) hnN (by omega)
    · split
      · exact INV_gives hi hd (by omega) hl (g_b hi.1 70 _ (Or.inl rfl)) (Nat.sub_le _ 1) (by omega) (by omega) hnN (by omega)
      · split
        · exact hi
        · exact INV_givesAll hi hd (by omega) hl (by omega) (by omega) hnN (by omega)
theorem INV_notes {S : a_S} {h : Nat → Nat} {w c l : Nat} (hi : INV S h) : INV (a_notes S w c l) h :=
  INV_log hi (RG_notes hi.1) (fun r i hr => an_o (by omega)) (fun i _ _ _ => an_o (by omega))
theorem INV_evicts {S : a_S} {h : Nat → Nat} {c l : Nat} (hi : INV S h) (hc : c < S 1 0) (hl : l < 8) (h1 : S 14 (8 * c + l) ≠ 0) : INV (a_evicts S c l) h := by
  have hn := g_n hi.1
  have e : INV (a_givesAll (a_notes S 4 c l) c 6 l) h := INV_givesAll (INV_notes hi) (by omega) (by omega) hl (by rw [an_o (by omega)]; exact h1) (by omega) (by rw [an_o (by omega)]; exact Or.inl hc) (Or.inr rfl)
  unfold a_evicts
  exact INV_log e (RG_sw e.1 (by unfold rg; omega)) (fun r i hr => sw_r (by omega)) (fun i _ _ _ => sw_i (by omega))
theorem UM_use {S : a_S} {c l : Nat} (hr : RG S) (hu : UD S) (h : UM S) (hc : c < 6) (hl : l < 8) (S' : a_S) (e8 : ∀ i, S' 238 i = a_use S c l 238 i) (e4 : ∀ i, S' 244 i = a_use S c l 244 i) (e14 : ∀ i, i ≠ 8 * c + l → S' 14 i = S 14 i) (hc0 : S' 14 (8 * c + l) ≠ 0) : UM S' := by
  have f7 := UD_f7 hr hu hc hl
  intro d hd
  have hd1 := h d hd
  have h8d := g_8 hr 238 d (Or.inl rfl)
  have h8c := g_8 hr 238 c (Or.inl rfl)
  rw [e8]
  by_cases hdc : d = c
  · subst hdc
    have q8 : a_use S d l 238 d = a_forget S d l 238 d + 1 := by unfold a_use; rw [sw_at]
    rw [q8]
    refine ⟨fun k hk => ?_, fun k hk hk8 => ?_⟩
    · rw [e4]
      by_cases hk9 : k = a_forget S d l 238 d
      · have q4 : a_use S d l 244 (8 * d + k) = l := by unfold a_use; rw [sw_r (by omega), hk9, sw_at]
        rw [q4]
        exact hc0
      · have q4 : a_use S d l 244 (8 * d + k) = a_forget S d l 244 (8 * d + k) := by unfold a_use; rw [sw_r (by omega), sw_i (by omega)]
        obtain ⟨k', hk', ek⟩ := fo_mem k (show k < a_forget S d l 238 d by omega)
        have hn := fo_not (l := l) hr hd hu k (by omega)
        rw [q4]
        rw [ek] at hn ⊢
        rw [e14 _ (by omega)]
        exact hd1.1 k' hk'
    · have q4 : a_use S d l 244 (8 * d + k) = a_forget S d l 244 (8 * d + k) := by unfold a_use; rw [sw_r (by omega), sw_i (by omega)]
      rw [e4, q4]
      exact fo_zero hd1.2 k (by omega) hk8
  · have q8 : a_use S c l 238 d = S 238 d := by unfold a_use; rw [sw_i hdc, sw_r (by omega), fo_oth hdc]
    have q4 : ∀ k, k < 8 → a_use S c l 244 (8 * d + k) = S 244 (8 * d + k) := by
      intro k hk
      unfold a_use
      rw [sw_r (by omega), sw_i (by omega), fo_oth2 hdc hk h8c]
    rw [q8]
    refine ⟨fun k hk => ?_, fun k hk hk8 => ?_⟩
    · have := g_l hr 244 (8 * d + k) (Or.inl rfl)
      rw [e4, q4 k (by omega), e14 _ (by omega)]
      exact hd1.1 k hk
    · rw [e4, q4 k hk8]
      exact hd1.2 k hk hk8
theorem INV_does {S : a_S} {h : Nat → Nat} {c l w v : Nat} (hi : INV S h) (hc : c < 6) (hl : l < 8) (hv : v < 10000) (h0 : S 14 (8 * c + l) ≠ 0) : INV (a_does S c l w v) h := by
  obtain ⟨i1, i2, i3, i4, i5, i6, i7, i8, i9, i10, i11⟩ := hi
  have g := RG_does2 (c := c) (l := l) (w := w) i1 hv
  have u : UD (a_does2 S c l w v) := UD_c i2 (fun i => ad2_o (by omega)) (fun i => ad2_o (by omega))
  have m : UM (a_does2 S c l w v) := UM_c i3 (fun i => ad2_o (by omega)) (fun i => ad2_o (by omega)) (fun i => ad2_o (by omega))
  exact ⟨RG_does i1 hl hv (UD_f7 i1 i2 hc hl), UD_does i1 hc hl hv i2, UM_use g u m hc hl _ (fun i => rfl) (fun i => rfl) (fun i _ => by rw [ad_o (by omega), ad2_o (by omega)]) (by rw [ad_o (by omega)]; exact h0), VM_c i4 (fun i => ad_o (by omega)) (ad_o (by omega)) (ad_o (by omega)), TK_c i5 (fun i => ad_o (by omega)) (ad_o (by omega)) (fun i => ad_o (by omega)) (ad_o (by omega)), KC_c i6 (fun i => ad_o (by omega)) (ad_o (by omega)) (fun i => ad_o (by omega)), SC_c i7 (fun i hi => ad_o (by omega)), MS_c i8 (fun i => ad_o (by omega)) (fun i => ad_o (by omega)) (fun i => ad_o (by omega)) (fun i => ad_o (by omega)) (ad_o (by omega)), HG_c i9 (fun i => ad_o (by omega)) (fun i => ad_o (by omega)), TI_c i10 (fun i => ad_o (by omega)) (fun i => ad_o (by omega)) (fun c _ => ad_o (by omega)) (ad_o (by omega)), SU_c i11 (fun i => ad_o (by omega)) (ad_o (by omega)) (ad_o (by omega)) (ad_o (by omega))⟩
