/-! ===== a message that comes keeps what always holds ===== -/
theorem take_c {S : a_S} {nd l mn ow wi : Nat} : a_take S nd l mn ow wi 14 (8 * nd + l) = S 14 (8 * nd + l) + mn := by
  have e2 : a_take2 (a_take1 S nd l mn) nd l ow 14 (8 * nd + l) = S 14 (8 * nd + l) + mn := by
    unfold a_take2 a_take1
    split
    · rw [sw_r (by omega), sw_at]
    · rw [sw_at]
  unfold a_take a_take3
  split
  · exact e2
  · rw [sw_r (by omega), sw_r (by omega), e2]
theorem take_p {S : a_S} {nd l mn ow wi i : Nat} (hi : i ≠ 8 * nd + l) : a_take S nd l mn ow wi 14 i = S 14 i := by
  have e2 : a_take2 (a_take1 S nd l mn) nd l ow 14 i = S 14 i := by
    unfold a_take2 a_take1
    split
    · rw [sw_r (by omega), sw_i hi]
    · rw [sw_i hi]
  unfold a_take a_take3
  split
  · exact e2
  · rw [sw_r (by omega), sw_r (by omega), e2]
theorem INV_tk {S U : a_S} {h h' : Nat → Nat} {nd l mn ow wi : Nat} (hi : INV S h) (hU : ∀ r i, r ≠ 238 → r ≠ 244 → U r i = S r i) (hr : RG (a_take U nd l mn ow wi)) (hu : UD (a_take U nd l mn ow wi)) (hm : UM (a_take U nd l mn ow wi)) (hd : nd < 7) (hl : l < 8) (hh : ∀ x, h x = h' x + if l = x then mn else 0) : INV (a_take U nd l mn ow wi) h' := by
  obtain ⟨i1, i2, i3, i4, i5, i6, i7, i8, i9, i10, i11⟩ := hi
  have o : ∀ r i, r ≠ 238 → r ≠ 244 → r ≠ 14 → r ≠ 70 → r ≠ 126 → r ≠ 182 → a_take U nd l mn ow wi r i = S r i := fun r i a b c d e f => by rw [ta_o ⟨c, d, e, f⟩, hU r i a b]
  have o1 : ∀ i, a_take U nd l mn ow wi 1 i = S 1 i := fun i => o 1 i (by omega) (by omega) (by omega) (by omega) (by omega) (by omega)
  refine ⟨hr, hu, hm, VM_c i4 (fun i => o 586 i (by omega) (by omega) (by omega) (by omega) (by omega) (by omega)) (o1 7) (o1 0), ?_, KC_c i6 (fun i => o 586 i (by omega) (by omega) (by omega) (by omega) (by omega) (by omega)) (o1 7) (fun i => o 310 i (by omega) (by omega) (by omega) (by omega) (by omega) (by omega)), SC_c i7 (fun i _ => o1 i), MS_c i8 (fun i => o 292 i (by omega) (by omega) (by omega) (by omega) (by omega) (by omega)) (fun i => o 298 i (by omega) (by omega) (by omega) (by omega) (by omega) (by omega)) (fun i => o 304 i (by omega) (by omega) (by omega) (by omega) (by omega) (by omega)) (fun i => o 310 i (by omega) (by omega) (by omega) (by omega) (by omega) (by omega)) (o1 0), HG_c i9 (fun i => o 538 i (by omega) (by omega) (by omega) (by omega) (by omega) (by omega)) (fun i => o 6766 i (by omega) (by omega) (by omega) (by omega) (by omega) (by omega)), TI_c i10 (fun i => o 532 i (by omega) (by omega) (by omega) (by omega) (by omega) (by omega)) (fun i => o 6730 i (by omega) (by omega) (by omega) (by omega) (by omega) (by omega)) (fun c _ => o 316 _ (by omega) (by omega) (by omega) (by omega) (by omega) (by omega)) (o1 5), SU_c i11 (fun i => o 6736 i (by omega) (by omega) (by omega) (by omega) (by omega) (by omega)) (o1 9) (o1 10) (o1 11)⟩
  intro x hx
  rw [o1, ← i5 x hx, hh x]
  unfold tkn
  rw [mq_c (S := S) (fun i => o 586 i (by omega) (by omega) (by omega) (by omega) (by omega) (by omega)) (o1 7)]
  by_cases hlx : l = x
  · subst hlx
    have e1 := sm_one (g := fun n => S 14 (8 * n + l)) (g' := fun n => a_take U nd l mn ow wi 14 (8 * n + l)) 7 hd (fun i _ hn => by
      show a_take U nd l mn ow wi 14 (8 * i + l) = S 14 (8 * i + l)
      rw [take_p (by omega), hU _ _ (by omega) (by omega)])
    simp only [take_c, hU 14 (8 * nd + l) (by omega) (by omega)] at e1
    rw [if_pos rfl]
    omega
  · rw [if_neg hlx, sm_c 7 (fun n _ => by
      show a_take U nd l mn ow wi 14 (8 * n + x) = S 14 (8 * n + x)
      rw [take_p (by omega), hU _ _ (by omega) (by omega)])]
    omega
theorem TK_le {S : a_S} {h : Nat → Nat} {nd l : Nat} (hi : INV S h) (hd : nd < 7) (hl : l < 8) : S 14 (8 * nd + l) + h l ≤ S 1 1 := by
  have e := hi.2.2.2.2.1 l hl
  have e1 := sm_one (g := fun n => S 14 (8 * n + l)) (g' := fun n => if n = nd then 0 else S 14 (8 * n + l)) 7 hd (fun i _ hn => if_neg hn)
  simp only [if_true] at e1
  unfold tkn at e
  omega
theorem INV_take {S : a_S} {h h' : Nat → Nat} {nd l mn ow wi : Nat} (hi : INV S h) (hd : nd < 7) (hl : l < 8) (hw : wi ≤ 10000) (hh : ∀ x, h x = h' x + if l = x then mn else 0) : INV (a_take S nd l mn ow wi) h' := by
  have e1 := TK_le hi hd hl
  have e2 := hh l
  have hT := g_T hi.1
  rw [if_pos rfl] at e2
  refine INV_tk hi (fun _ _ _ _ => rfl) (RG_take hi.1 (by omega) hw) (UD_take hi.2.1) ?_ hd hl hh
  intro c hc
  have hc1 := hi.2.2.1 c hc
  rw [ta_o (by omega)]
  refine ⟨fun k hk => ?_, fun k hk hk8 => ?_⟩
  · rw [ta_o (r := 244) (by omega)]
    by_cases hx : 8 * c + S 244 (8 * c + k) = 8 * nd + l
    · have := hc1.1 k hk
      rw [hx] at this ⊢
      rw [take_c]
      omega
    · rw [take_p hx]
      exact hc1.1 k hk
  · rw [ta_o (by omega)]
    exact hc1.2 k hk hk8
theorem INV_usetake {S : a_S} {h h' : Nat → Nat} {nd l mn ow wi : Nat} (hi : INV S h) (hd : nd < 6) (hl : l < 8) (hw : wi ≤ 10000) (hm : 1 ≤ mn) (hh : ∀ x, h x = h' x + if l = x then mn else 0) : INV (a_take (a_use S nd l) nd l mn ow wi) h' := by
  have e1 := TK_le hi (show nd < 7 by omega) hl
  have e2 := hh l
  have hT := g_T hi.1
  have f7 := UD_f7 hi.1 hi.2.1 hd hl
  rw [if_pos rfl] at e2
  refine INV_tk hi (fun r i a b => us_o ⟨a, b⟩) (RG_take (RG_use hi.1 hl f7) (by rw [us_o (by omega)]; omega) hw) (UD_take (UD_use hi.1 hd hi.2.1 f7)) (UM_use hi.1 hi.2.1 hi.2.2.1 hd hl _ (fun i => ta_o (by omega)) (fun i => ta_o (by omega)) (fun i hx => by rw [take_p hx, us_o (by omega)]) (by rw [take_c]; omega)) (by omega) hl hh
theorem INV_c272 {S : a_S} {h : Nat → Nat} {nd l : Nat} (hi : INV S h) (hd : nd < 7) (hl : l < 8) (hN : nd < S 1 0 ∨ nd = 6) : INV (a_c272 S nd l) h := by
  have sc := hi.2.2.2.2.2.2.1
  unfold a_c272
  split
  · rename_i hh
    have h0 : S 14 (8 * nd + l) ≠ 0 := by
      have := hh.2.2.2
      unfold SC at sc
      omega
    refine INV_settles (INV_ends hi (by omega) hl h0 hh.2.1) hd hl ?_
    have : a_ends S nd l 1 0 = S 1 0 := by
      unfold a_ends
      split
      · rw [at_1 (by omega), ae4_1 (by omega)]
      · rw [ae3_1 (by omega)]
    rw [this]
    exact hN
  · exact INV_settles hi hd hl hN
theorem INV_c178 {S : a_S} {h h' : Nat → Nat} {nd l mn ow wi : Nat} (hi : INV S h) (hd : nd < 6) (hl : l < 8) (hN : nd < S 1 0) (hw : wi ≤ 10000) (hm : 1 ≤ mn) (hh : ∀ x, h x = h' x + if l = x then mn else 0) : INV (a_c178 S nd l mn ow wi) h' := by
  unfold a_c178
  split
  · exact INV_c272 (INV_usetake hi hd hl hw hm hh) (by omega) hl (by rw [ta_o (by omega), us_o (by omega)]; exact Or.inl hN)
  · exact INV_c272 (INV_take hi (by omega) hl hw hh) (by omega) hl (by rw [ta_o (by omega)]; exact Or.inl hN)
theorem INV_sendT {S : a_S} {h h' : Nat → Nat} {nd t l mn ow wi : Nat} (hi : INV S h) (hd : nd < 7) (ht : t < 7) (hl : l < 8) (how : ow < 2) (hw : wi ≤ 10000) (hm : mn ≤ 12) (h1 : 1 ≤ mn) (hne : nd ≠ t) (hnN : nd < S 1 0 ∨ nd = 6) (htN : t < S 1 0 ∨ t = 6) (hh : ∀ x, h x = h' x + if l = x then mn else 0) : INV (a_send S nd t 3 l mn ow wi 0 0) h' := by
  have hq := INV_q hi
  obtain ⟨i1, i2, i3, i4, i5, i6, i7, i8, i9, i10, i11⟩ := hi
  refine ⟨RG_send i1 (by omega) hd ht (by omega) hl hm how hw (by omega) (by omega), UD_c i2 (fun i => as_o (by omega)) (fun i => as_o (by omega)), UM_c i3 (fun i => as_o (by omega)) (fun i => as_o (by omega)) (fun i => as_o (by omega)), VM_send i4 ?_, ?_, ?_, SC_c i7 (fun i hi => as_1 (by omega)), MS_c i8 (fun i => as_o (by omega)) (fun i => as_o (by omega)) (fun i => as_o (by omega)) (fun i => as_o (by omega)) (as_1 (by omega)), HG_c i9 (fun i => as_o (by omega)) (fun i => as_o (by omega)), TI_c i10 (fun i => as_o (by omega)) (fun i => as_o (by omega)) (fun c _ => as_o (by omega)) (as_1 (by omega)), SU_c i11 (fun i => as_o (by omega)) (as_1 (by omega)) (as_1 (by omega)) (as_1 (by omega))⟩
  · show 1 ≤ 3 ∧ 3 ≤ 5 ∧ (3 = 3 → 1 ≤ mn ∧ 0 = 0 ∧ 0 = 0) ∧ (3 ≠ 3 → mn = 0 ∧ ow = 0 ∧ wi = 0 ∧ nd < 6) ∧ (3 ≤ 2 → 0 = 0 ∧ 0 = 0) ∧ (3 = 5 → 0 = 0) ∧ nd ≠ t ∧ (nd < S 1 0 ∨ nd = 6) ∧ (t < S 1 0 ∨ t = 6)
    refine ⟨by omega, by omega, fun _ => ⟨h1, rfl, rfl⟩, fun h9 => absurd rfl h9, fun _ => ⟨rfl, rfl⟩, fun _ => rfl, hne, hnN, htN⟩
  · intro x hx
    have e : wt x (fl9 nd t 3 l mn ow wi 0 0) = if l = x then mn else 0 := rfl
    have i9 := i5 x hx
    have hx1 := hh x
    unfold tkn at i9 ⊢
    rw [mq_send (gp_t x), as_1 (by omega), e, sm_c (g' := fun n => S 14 (8 * n + x)) 7 (fun n _ => as_o (by omega))]
    omega
  · refine ⟨?_, fun c hc => ?_⟩
    · rw [mq_send gp_a]
      exact i6.1
    · have e4 : wk 4 c (fl9 nd t 3 l mn ow wi 0 0) = 0 := if_neg (fun h9 => absurd h9.2 (by show ¬ 3 = 4; omega))
      have e5 : wk 5 c (fl9 nd t 3 l mn ow wi 0 0) = 0 := if_neg (fun h9 => absurd h9.2 (by show ¬ 3 = 5; omega))
      rw [mq_send (gp_k 4 c), mq_send (gp_k 5 c), e4, e5, as_o (by omega)]
      exact i6.2 c hc
theorem INV_c82 {S : a_S} {h h' : Nat → Nat} {nd l mn ow wi : Nat} (hi : INV S h) (hd : nd < 6) (hl : l < 8) (hN : nd < S 1 0) (how : ow < 2) (hw : wi ≤ 10000) (hm : 1 ≤ mn) (hm2 : mn ≤ 12) (hh : ∀ x, h x = h' x + if l = x then mn else 0) : INV (a_c82 S nd l mn ow wi) h' := by
  have sc := hi.2.2.2.2.2.2.1
  unfold a_c82
  split
  · rename_i h1
    split
    · have u0 := (hi.2.2.1 nd hd).1 0 (by unfold SC at sc; omega)
      rw [Nat.add_zero] at u0
      have ne : S 244 (8 * nd) ≠ l := by
        intro e
        rw [e] at u0
        exact u0 h1.1
      have el : a_eld S nd l = S 244 (8 * nd) := by
        unfold a_eld
        rw [if_neg ne]
      have l8 := g_l hi.1 244 (8 * nd) (Or.inl rfl)
      rw [el]
      exact INV_c178 (INV_evicts hi hN l8 u0) hd hl (by rw [ev_1 (by omega)]; exact hN) hw hm hh
    · exact INV_sendT (INV_notes hi) (by omega) (by omega) hl how hw hm2 hm (by omega) (by rw [an_o (by omega)]; exact Or.inl hN) (Or.inr rfl) hh
  · exact INV_c178 hi hd hl hN hw hm hh
theorem or_bit {g f c : Nat} (h : f ≠ c) : (g ||| 2 ^ f) / 2 ^ c % 2 = g / 2 ^ c % 2 := by
  have e : (g ||| 2 ^ f).testBit c = g.testBit c := by
    rw [Nat.testBit_or, Nat.testBit_two_pow]
    simp [h]
  rw [Nat.testBit_eq_decide_div_mod_eq, Nat.testBit_eq_decide_div_mod_eq] at e
  have e2 : ((g ||| 2 ^ f) / 2 ^ c % 2 = 1) = (g / 2 ^ c % 2 = 1) := by
    have := decide_eq_decide.1 e
    exact propext this
  have a : (g ||| 2 ^ f) / 2 ^ c % 2 < 2 := Nat.mod_lt _ (by omega)
  have b : g / 2 ^ c % 2 < 2 := Nat.mod_lt _ (by omega)
  by_cases q : g / 2 ^ c % 2 = 1
  · rw [q]
    exact e2.mpr q
  · have : ¬ (g ||| 2 ^ f) / 2 ^ c % 2 = 1 := fun h9 => q (e2.mp h9)
    omega
theorem INV_hg {S S' : a_S} {h : Nat → Nat} (hi : INV S h) (hr : RG S') (hg : HG S') (hd : ∀ r i, r ≠ 538 → r ≠ 6766 → S' r i = S r i) : INV S' h := by
  obtain ⟨_, i2, i3, i4, i5, i6, i7, i8, i9, i10, i11⟩ := hi
  exact ⟨hr, UD_c i2 (fun i => hd 238 i (by omega) (by omega)) (fun i => hd 244 i (by omega) (by omega)), UM_c i3 (fun i => hd 238 i (by omega) (by omega)) (fun i => hd 244 i (by omega) (by omega)) (fun i => hd 14 i (by omega) (by omega)), VM_c i4 (fun i => hd 586 i (by omega) (by omega)) (hd 1 7 (by omega) (by omega)) (hd 1 0 (by omega) (by omega)), TK_c i5 (fun i => hd 586 i (by omega) (by omega)) (hd 1 7 (by omega) (by omega)) (fun i => hd 14 i (by omega) (by omega)) (hd 1 1 (by omega) (by omega)), KC_c i6 (fun i => hd 586 i (by omega) (by omega)) (hd 1 7 (by omega) (by omega)) (fun i => hd 310 i (by omega) (by omega)), SC_c i7 (fun i hi => hd 1 i (by omega) (by omega)), MS_c i8 (fun i => hd 292 i (by omega) (by omega)) (fun i => hd 298 i (by omega) (by omega)) (fun i => hd 304 i (by omega) (by omega)) (fun i => hd 310 i (by omega) (by omega)) (hd 1 0 (by omega) (by omega)), hg, TI_c i10 (fun i => hd 532 i (by omega) (by omega)) (fun i => hd 6730 i (by omega) (by omega)) (fun c _ => hd 316 _ (by omega) (by omega)) (hd 1 5 (by omega) (by omega)), SU_c i11 (fun i => hd 6736 i (by omega) (by omega)) (hd 1 9 (by omega) (by omega)) (hd 1 10 (by omega) (by omega)) (hd 1 11 (by omega) (by omega))⟩
theorem INV_rem {S : a_S} {h : Nat → Nat} {nd f l : Nat} (hi : INV S h) (hd : nd < 6) (hf : f < 7) (hl : l < 8) (hne : f ≠ nd) : INV (a_rem S nd f l) h := by
  refine INV_hg hi (RG_rem hi.1 hf) ?_ (fun r i a b => re_o ⟨a, b⟩)
  have hg := hi.2.2.2.2.2.2.2.2.1
  intro c x hc hx
  have hg1 := hg c x hc hx
  unfold a_rem
  by_cases he : c = nd ∧ x = l
  · obtain ⟨rfl, rfl⟩ := he
    split
    · rw [sw_at, sw_r (by omega)]
      exact ⟨by omega, hg1.2⟩
    · rw [sw_r (by omega), sw_at, sw_at, or_bit hne]
      exact ⟨by omega, hg1.2⟩
  · have hi9 : 8 * c + x ≠ 8 * nd + l := by omega
    split
    · rw [sw_i hi9, sw_r (by omega)]
      exact hg1
    · rw [sw_r (by omega), sw_i hi9, sw_i hi9, sw_r (by omega)]
      exact hg1
theorem INV_ans2 {S : a_S} {h : Nat → Nat} {nd f l w : Nat} (hi : INV S h) (hd : nd < 7) (hf : f < 6) (hl : l < 8) (hne : f ≠ nd) : INV (a_ans2 S nd f l w) h := by
  refine INV_hg hi (RG_ans2 hi.1 hf) ?_ (fun r i a b => an2_o ⟨a, b⟩)
  have hg := hi.2.2.2.2.2.2.2.2.1
  intro c x hc hx
  have hg1 := hg c x hc hx
  have h1 : a_ans1 S nd f l w 538 (8 * c + x) ≠ c + 1 := by
    unfold a_ans1
    split
    · by_cases he : 8 * c + x = 8 * nd + l
      · rw [he, sw_at]
        omega
      · rw [sw_i he]
        exact hg1.1
    · exact hg1.1
  unfold a_ans2
  split
  · exact ⟨h1, by rw [an1_o (by omega)]; exact hg1.2⟩
  · rw [sw_r (by omega)]
    refine ⟨h1, ?_⟩
    by_cases he : 8 * c + x = 8 * nd + l
    · rw [he, sw_at, or_bit (by omega), ← he]
      exact hg1.2
    · rw [sw_i he, an1_o (by omega)]
      exact hg1.2
theorem INV_comes {S : a_S} {h h' : Nat → Nat} {nd f l mn ow wi : Nat} (hi : INV S h) (hd : nd < 7) (hf : f < 7) (hl : l < 8) (hN : nd < S 1 0 ∨ nd = 6) (hne : f ≠ nd) (how : ow < 2) (hw : wi ≤ 10000) (hm : 1 ≤ mn) (hm2 : mn ≤ 12) (hh : ∀ x, h x = h' x + if l = x then mn else 0) : INV (a_comes S nd f l mn ow wi) h' := by
  unfold a_comes
  split
  · exact INV_c272 (INV_take hi hd hl hw hh) hd hl (by rw [ta_o (by omega)]; exact hN)
  · exact INV_c82 (INV_rem hi (by omega) hf hl hne) (by omega) hl (by rw [re_o (by omega)]; omega) how hw hm hm2 hh
theorem INV_answers {S : a_S} {h : Nat → Nat} {nd f l w : Nat} (hi : INV S h) (hd : nd < 7) (hf : f < 6) (hl : l < 8) (hN : nd < S 1 0 ∨ nd = 6) (hfN : f < S 1 0) (hne : f ≠ nd) : INV (a_answers S nd f l w) h := by
  have e := INV_ans2 (w := w) hi hd hf hl hne
  unfold a_answers a_ans3
  split
  · exact e
  · split
    · exact INV_givesAll e hd (by omega) hl (by omega) (by omega) (by rw [an2_o (by omega)]; exact hN) (by rw [an2_o (by omega)]; exact Or.inl hfN)
    · split
      · exact INV_gives e hd (by omega) hl (by omega) (by omega) (by omega) (by omega) (by rw [an2_o (by omega)]; exact hN) (by rw [an2_o (by omega)]; exact Or.inl hfN)
      · exact e
theorem INV_asked {S : a_S} {h : Nat → Nat} {nd f l nt wh : Nat} (hi : INV S h) (hd : nd < 7) (hf : f < 6) (hl : l < 8) (hN : nd < S 1 0 ∨ nd = 6) (hne : f ≠ nd) (hn : nt ≤ 10100) (hw : wh < 4) : INV (a_asked S nd f l nt wh) h := by
  unfold a_asked
  split
  · exact hi
  · refine INV_settles (INV_log' hi (RG_asked1 hi.1 hl hn hw) (fun r i hr => ak1_o (by omega)) (fun c hc => ?_) (fun i _ _ _ => ak1_o (by omega))) hd hl (by rw [ak1_o (by omega)]; exact hN)
    unfold a_asked1
    rw [sw_r (by omega), sw_r (by omega), sw_r (by omega), sw_r (by omega), sw_i (by omega)]
theorem INV_reca {S : a_S} {h : Nat → Nat} {nd f l nt : Nat} (hi : INV S h) (hd : nd < 7) (hf : f < 6) (hl : l < 8) (hN : nd < S 1 0 ∨ nd = 6) (hne : f ≠ nd) (hn : nt ≤ 10100) : INV (a_reca S nd f l nt) h := by
  unfold a_reca
  split
  · exact hi
  · refine INV_settles (INV_log' hi (RG_reca1 hi.1 hn) (fun r i hr => rc1_o (by omega)) (fun c hc => ?_) (fun i _ _ _ => rc1_o (by omega))) hd hl (by rw [rc1_o (by omega)]; exact hN)
    unfold a_reca1
    rw [sw_r (by omega), sw_r (by omega), sw_i (by omega)]
theorem INV_rm {S : a_S} {h h' : Nat → Nat} {i : Nat} (hi : INV S h) (hlt : i < S 1 7) (hh : ∀ x, h' x = h x + wt x (fd S i)) : INV (a_rm S i) h' := by
  obtain ⟨i1, i2, i3, i4, i5, i6, i7, i8, i9, i10, i11⟩ := hi
  refine ⟨RG_rm i1, UD_c i2 (fun j => rm_q (by omega)) (fun j => rm_q (by omega)), UM_c i3 (fun j => rm_q (by omega)) (fun j => rm_q (by omega)) (fun j => rm_q (by omega)), VM_rm i4 hlt, ?_, ?_, SC_c i7 (fun j hj => rm_1 (by omega)), MS_c i8 (fun j => rm_q (by omega)) (fun j => rm_q (by omega)) (fun j => rm_q (by omega)) (fun j => rm_q (by omega)) (rm_1 (by omega)), HG_c i9 (fun j => rm_q (by omega)) (fun j => rm_q (by omega)), TI_c i10 (fun j => rm_q (by omega)) (fun j => rm_q (by omega)) (fun c _ => rm_q (by omega)) (rm_1 (by omega)), SU_c i11 (fun j => rm_q (by omega)) (rm_1 (by omega)) (rm_1 (by omega)) (rm_1 (by omega))⟩
  · intro x hx
    have e := i5 x hx
    have e2 := mq_rm (gp_t x) hlt
    have e3 := hh x
    unfold tkn at e ⊢
    rw [rm_1 (by omega), sm_c (g' := fun n => S 14 (8 * n + x)) 7 (fun n _ => rm_q (by omega))]
    omega
  · have ea := mq_rm gp_a hlt
    refine ⟨by have := i6.1; omega, fun c hc => ?_⟩
    have e4 := mq_rm (gp_k 4 c) hlt
    have e5 := mq_rm (gp_k 5 c) hlt
    have e6 := i6.2 c hc
    rw [rm_q (by omega)]
    exact ⟨by omega, by omega, fun h9 => by have := e6.2.2 h9; omega⟩
def z0 : Nat → Nat := fun _ => 0
theorem INV_del {S : a_S} {i : Nat} (hi : INV S z0) (hlt : i < S 1 7) : INV (a_del S i) z0 := by
  have g := g_f hi.1 i
  have v := hi.2.2.2.1 i hlt
  unfold VMf at v
  have f0 : fd S i 0 = S 586 (9 * i) := rfl
  have f1 : fd S i 1 = S 586 (9 * i + 1) := rfl
  have f2 : fd S i 2 = S 586 (9 * i + 2) := rfl
  have f3 : fd S i 3 = S 586 (9 * i + 3) := rfl
  have f4 : fd S i 4 = S 586 (9 * i + 4) := rfl
  have f7 : fd S i 7 = S 586 (9 * i + 7) := rfl
  have f8 : fd S i 8 = S 586 (9 * i + 8) := rfl
  rw [f0, f1, f2, f4, f7, f8] at v
  have e0 : S 586 (9 * i + 2) ≠ 3 → INV (a_rm S i) z0 := by
    intro hk
    refine INV_rm hi hlt (fun x => ?_)
    have := (v.2.2.2.1 hk).1
    unfold wt
    rw [f4, this]
    split <;> rfl
  have n0 : a_rm S i 1 0 = S 1 0 := rm_1 (by omega)
  unfold a_del
  split
  · rename_i k
    have q := v.2.2.2.1 (by omega)
    exact INV_answers (e0 (by omega)) g.2.1 q.2.2.2 g.2.2.2.1 (by omega) (by omega) (by omega)
  · split
    · rename_i k
      have q := v.2.2.2.1 (by omega)
      exact INV_answers (e0 (by omega)) g.2.1 q.2.2.2 g.2.2.2.1 (by omega) (by omega) (by omega)
    · split
      · rename_i k
        have q := v.2.2.1 k
        have e1 : INV (a_rm S i) (fun x => wt x (fd S i)) := INV_rm hi hlt (fun x => by show _ = 0 + _; omega)
        exact INV_comes e1 g.2.1 g.1 g.2.2.2.1 (by omega) (by omega) g.2.2.2.2.2.1 g.2.2.2.2.2.2.1 q.1 g.2.2.2.2.1 (fun x => by
          show (if fd S i 3 = x then fd S i 4 else 0) = 0 + _
          rw [f3, f4]; omega)
      · split
        · rename_i k
          have q := v.2.2.2.1 (by omega)
          exact INV_asked (e0 (by omega)) g.2.1 q.2.2.2 g.2.2.2.1 (by omega) (by omega) g.2.2.2.2.2.2.2.1 g.2.2.2.2.2.2.2.2
        · rename_i k
          have q := v.2.2.2.1 (by omega)
          exact INV_reca (e0 (by omega)) g.2.1 q.2.2.2 g.2.2.2.1 (by omega) (by omega) g.2.2.2.2.2.2.2.1
