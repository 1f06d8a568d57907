/-! ===== a delivery changes but the core of the node to which it goes ===== -/
def INB (nd r x : Nat) : Prop := ((r = 14 ∨ r = 70 ∨ r = 126 ∨ r = 182) ∧ 8 * nd ≤ x ∧ x < 8 * nd + 8) ∨ (nd < 6 ∧ (r = 238 ∨ r = 292 ∨ r = 298 ∨ r = 304 ∨ r = 310) ∧ x = nd) ∨ (nd < 6 ∧ r = 244 ∧ 8 * nd ≤ x ∧ x < 8 * nd + 8) ∨ ((r = 316 ∨ r = 358 ∨ r = 400 ∨ r = 442 ∨ r = 484) ∧ 6 * nd ≤ x ∧ x < 6 * nd + 6)
def FB (nd : Nat) (S S' : a_S) : Prop := ∀ r x, cr r → ¬ INB nd r x → S' r x = S r x
theorem FB_r {nd : Nat} {S : a_S} : FB nd S S := fun _ _ _ _ => rfl
theorem FB_t {nd : Nat} {S S' S'' : a_S} (h : FB nd S S') (h2 : FB nd S' S'') : FB nd S S'' := fun r x a b => by rw [h2 r x a b, h r x a b]
theorem FB_sw {nd r i v : Nat} {S S' : a_S} (h : FB nd S S') (hr : ¬ cr r ∨ INB nd r i) : FB nd S (sw S' r i v) := by
  intro x j hx hj
  rw [sw_ne (fun q => ?_), h x j hx hj]
  rw [q.1] at hx
  rw [q.1, q.2] at hj
  rcases hr with hr | hr
  · exact hr hx
  · exact hj hr
theorem FB_o {nd : Nat} {S S' S'' : a_S} (h : FB nd S S') (h2 : ∀ r x, cr r → S'' r x = S' r x) : FB nd S S'' := fun r x a b => by rw [h2 r x a, h r x a b]
theorem FB_send {nd f t k l mn ow wi nt wh : Nat} {S S' : a_S} (h : FB nd S S') : FB nd S (a_send S' f t k l mn ow wi nt wh) := FB_o h (fun r x hr => as_o (by unfold cr at hr; omega))
theorem FB_notes {nd w c l : Nat} {S S' : a_S} (h : FB nd S S') : FB nd S (a_notes S' w c l) := FB_o h (fun r x hr => an_o (by unfold cr at hr; omega))
theorem FB_forget {nd l : Nat} {S S' : a_S} (h : FB nd S S') (hd : nd < 6) (h8 : S' 238 nd ≤ 8) : FB nd S (a_forget S' nd l) := by
  unfold a_forget
  split
  · exact h
  · have h1 : FB nd S (sw S' 238 nd (S' 238 nd - 1)) := FB_sw h (Or.inr (by unfold INB; omega))
    intro r x hr hx
    have hx2 := hx
    unfold INB at hx2
    unfold a_shift
    by_cases c : r = 244
    · subst c
      rw [if_pos rfl, if_neg (by omega), if_neg (by omega)]
      exact h1 244 x hr hx
    · rw [if_neg c]
      exact h1 r x hr hx
theorem FB_use {nd l : Nat} {S S' : a_S} (h : FB nd S S') (hd : nd < 6) (h8 : S' 238 nd ≤ 8) (h7 : a_forget S' nd l 238 nd ≤ 7) : FB nd S (a_use S' nd l) := by
  have h1 := FB_forget (l := l) h hd h8
  unfold a_use
  exact FB_sw (FB_sw h1 (Or.inr (by unfold INB; omega))) (Or.inr (by unfold INB; omega))
theorem FB_gives {nd t l mn ow da : Nat} {S S' : a_S} (h : FB nd S S') (hd : nd < 7) (hl : l < 8) (h8 : nd < 6 → S' 238 nd ≤ 8) : FB nd S (a_gives S' nd t l mn ow da) := by
  have h0 : FB nd S (a_gives0 S' nd t l mn ow da) := by
    unfold a_gives0
    exact FB_sw (FB_send h) (Or.inr (by unfold INB; omega))
  have h1 : FB nd S (a_gives1 S' nd t l mn ow da) := by
    unfold a_gives1
    split
    · exact h0
    · exact FB_sw h0 (Or.inr (by unfold INB; omega))
  have h2 : FB nd S (a_gives2 S' nd t l mn ow da) := by
    unfold a_gives2
    exact FB_sw (FB_sw h1 (Or.inr (by unfold INB; omega))) (Or.inr (by unfold INB; omega))
  unfold a_gives
  split
  · split
    · exact h2
    · refine FB_forget h2 (by omega) ?_
      have e : a_gives2 S' nd t l mn ow da 238 nd = S' 238 nd := by
        unfold a_gives2 a_gives1 a_gives0
        rw [sw_r (by omega), sw_r (by omega)]
        split
        · rw [sw_r (by omega), as_o (by omega)]
        · rw [sw_r (by omega), sw_r (by omega), as_o (by omega)]
      rw [e]
      exact h8 (by omega)
  · exact h1
theorem FB_givesAll {nd t l : Nat} {S S' : a_S} (h : FB nd S S') (hd : nd < 7) (hl : l < 8) (h8 : nd < 6 → S' 238 nd ≤ 8) : FB nd S (a_givesAll S' nd t l) := FB_gives h hd hl h8
theorem FB_settles {nd l : Nat} {S S' : a_S} (h : FB nd S S') (hd : nd < 7) (hl : l < 8) (h8 : nd < 6 → S' 238 nd ≤ 8) : FB nd S (a_settles S' nd l) := by
  unfold a_settles
  split
  · exact h
  · split
    · exact FB_givesAll h hd hl h8
    · split
      · exact FB_gives h hd hl h8
      · split
        · exact h
        · exact FB_givesAll h hd hl h8
theorem FB_does {nd l w v : Nat} {S S' : a_S} (h : FB nd S S') (hd : nd < 6) (hl : l < 8) (hv : v < 10000) (hr : RG S') (hu : UD S') : FB nd S (a_does S' nd l w v) := by
  have g := RG_does2 (c := nd) (l := l) (w := w) hr hv
  have u : UD (a_does2 S' nd l w v) := UD_c hu (fun i => ad2_o (by omega)) (fun i => ad2_o (by omega))
  have h1 : FB nd S (a_does1 S' nd l w v) := by
    unfold a_does1
    split
    · exact FB_sw h (Or.inr (by unfold INB; omega))
    · exact FB_o h (fun r x hr => asee_o (by unfold cr at hr; omega))
  have h2 : FB nd S (a_does2 S' nd l w v) := by
    unfold a_does2
    split
    · exact FB_sw h1 (Or.inr (by unfold INB; omega))
    · exact h1
  unfold a_does
  exact FB_use h2 hd (g_8 g 238 nd (by omega)) (UD_f7 g u hd hl)
theorem FB_tells {nd c k l wh : Nat} {S : a_S} : ∀ (m to : Nat) (S' : a_S), FB nd S S' → FB nd S (a_tells c k l wh m to S')
  | 0, _, _, h => h
  | m + 1, to, S', h => by
    unfold a_tells
    split
    · exact FB_tells m (to + 1) _ (FB_send h)
    · exact FB_tells m (to + 1) _ h
theorem FB_ends {nd l : Nat} {S S' : a_S} (h : FB nd S S') (hd : nd < 6) (hl : l < 8) (hr : RG S') (hu : UD S') : FB nd S (a_ends S' nd l) := by
  have hn := g_n hr
  have h1 : FB nd S (a_ends1 S' nd l) := by
    unfold a_ends1
    exact FB_does (FB_notes h) hd hl (g_d hr 304 nd (Or.inr rfl)) (RG_notes hr) (UD_notes hu)
  have h2 : FB nd S (a_ends2 S' nd l) := by
    unfold a_ends2
    exact FB_sw (FB_sw (FB_sw (FB_sw h1 (Or.inr (by unfold INB; omega))) (Or.inr (by unfold INB; omega))) (Or.inr (by unfold INB; omega))) (Or.inr (by unfold INB; omega))
  have h3 : FB nd S (a_ends3 S' nd l) := by
    unfold a_ends3
    exact FB_sw (FB_sw (FB_sw (FB_sw h2 (Or.inl (by unfold cr; omega))) (Or.inl (by unfold cr; omega))) (Or.inl (by unfold cr; omega))) (Or.inl (by unfold cr; omega))
  unfold a_ends
  split
  · refine FB_tells 7 0 _ ?_
    have h4 : FB nd S (sw (a_ends3 S' nd l) 358 (6 * nd + nd) 0) := FB_sw h3 (Or.inr (by unfold INB; omega))
    have e0 : a_ends3 S' nd l 1 0 = S' 1 0 := ae3_1 (by omega)
    unfold a_ends4
    intro r x hx hb
    have hb2 := hb
    unfold INB at hb2
    unfold a_mk
    rw [if_neg (by rw [sw_r (by omega), e0]; omega)]
    exact h4 r x hx hb
  · exact h3
theorem FB_evicts {nd l : Nat} {S S' : a_S} (h : FB nd S S') (hd : nd < 6) (hl : l < 8) (h8 : S' 238 nd ≤ 8) : FB nd S (a_evicts S' nd l) := by
  unfold a_evicts
  exact FB_sw (FB_givesAll (FB_notes h) (by omega) hl (fun _ => by rw [an_o (by omega)]; exact h8)) (Or.inl (by unfold cr; omega))
theorem FB_take {nd l mn ow wi : Nat} {S S' : a_S} (h : FB nd S S') (hl : l < 8) : FB nd S (a_take S' nd l mn ow wi) := by
  have h1 : FB nd S (a_take1 S' nd l mn) := by
    unfold a_take1
    exact FB_sw h (Or.inr (by unfold INB; omega))
  have h2 : FB nd S (a_take2 (a_take1 S' nd l mn) nd l ow) := by
    unfold a_take2
    split
    · exact FB_sw h1 (Or.inr (by unfold INB; omega))
    · exact h1
  unfold a_take a_take3
  split
  · exact h2
  · exact FB_sw (FB_sw h2 (Or.inr (by unfold INB; omega))) (Or.inr (by unfold INB; omega))
theorem FB_c272 {nd l : Nat} {S S' : a_S} {hh : Nat → Nat} (h : FB nd S S') (hd : nd < 7) (hl : l < 8) (hi : INV S' hh) : FB nd S (a_c272 S' nd l) := by
  unfold a_c272
  split
  · rename_i q
    have sc := hi.2.2.2.2.2.2.1
    have h0 : S' 14 (8 * nd + l) ≠ 0 := by
      have := q.2.2.2
      unfold SC at sc
      omega
    have ie := INV_ends hi (by omega) hl h0 q.2.1
    exact FB_settles (FB_ends h (by omega) hl hi.1 hi.2.1) hd hl (fun _ => g_8 ie.1 238 nd (by omega))
  · exact FB_settles h hd hl (fun _ => g_8 hi.1 238 nd (by omega))
theorem FB_c178 {nd l mn ow wi : Nat} {S S' : a_S} {hh h' : Nat → Nat} (h : FB nd S S') (hi : INV S' hh) (hd : nd < 6) (hl : l < 8) (hw : wi ≤ 10000) (hm : 1 ≤ mn) (hx : ∀ x, hh x = h' x + if l = x then mn else 0) : FB nd S (a_c178 S' nd l mn ow wi) := by
  unfold a_c178
  split
  · exact FB_c272 (FB_take (FB_use h hd (g_8 hi.1 238 nd (by omega)) (UD_f7 hi.1 hi.2.1 hd hl)) hl) (by omega) hl (INV_usetake (ow := ow) hi hd hl hw hm hx)
  · exact FB_c272 (FB_take h hl) (by omega) hl (INV_take (ow := ow) hi (by omega) hl hw hx)
theorem FB_c82 {nd l mn ow wi : Nat} {S S' : a_S} {hh h' : Nat → Nat} (h : FB nd S S') (hi : INV S' hh) (hd : nd < 6) (hl : l < 8) (hN : nd < S' 1 0) (hw : wi ≤ 10000) (hm : 1 ≤ mn) (hx : ∀ x, hh x = h' x + if l = x then mn else 0) : FB nd S (a_c82 S' nd l mn ow wi) := by
  have sc := hi.2.2.2.2.2.2.1
  unfold a_c82
  split
  · rename_i h1
    split
    · have u0 := (hi.2.2.1 nd hd).1 0 (by unfold SC at sc; omega)
      rw [Nat.add_zero] at u0
      have ne : S' 244 (8 * nd) ≠ l := by
        intro e
        rw [e] at u0
        exact u0 h1.1
      have el : a_eld S' nd l = S' 244 (8 * nd) := by
        unfold a_eld
        rw [if_neg ne]
      have l8 := g_l hi.1 244 (8 * nd) (Or.inl rfl)
      rw [el]
      exact FB_c178 (FB_evicts h hd l8 (g_8 hi.1 238 nd (by omega))) (INV_evicts hi hN l8 u0) hd hl hw hm hx
    · exact FB_send (FB_notes h)
  · exact FB_c178 h hi hd hl hw hm hx
theorem FB_del {S : a_S} {i : Nat} (hi : INV S z0) (hlt : i < S 1 7) : FB (S 586 (9 * i + 1)) S (a_del S i) := by
  have g := g_f hi.1 i
  have v := hi.2.2.2.1 i hlt
  unfold VMf at v
  have f0 : fd S i 0 = S 586 (9 * i) := rfl
  have f1 : fd S i 1 = S 586 (9 * i + 1) := rfl
  have f2 : fd S i 2 = S 586 (9 * i + 2) := rfl
  have f3 : fd S i 3 = S 586 (9 * i + 3) := rfl
  have f4 : fd S i 4 = S 586 (9 * i + 4) := rfl
  have f7 : fd S i 7 = S 586 (9 * i + 7) := rfl
  have f8 : fd S i 8 = S 586 (9 * i + 8) := rfl
  rw [f0, f1, f2, f4, f7, f8] at v
  have n0 : a_rm S i 1 0 = S 1 0 := rm_1 (by omega)
  have e1 : INV (a_rm S i) (fun x => wt x (fd S i)) := INV_rm hi hlt (fun x => by show _ = 0 + _; omega)
  have b0 : FB (S 586 (9 * i + 1)) S (a_rm S i) := fun r x hr _ => rm_q (by unfold cr at hr; omega)
  have h8 := g_8 e1.1 238 (S 586 (9 * i + 1)) (by omega)
  have ans : ∀ w, FB (S 586 (9 * i + 1)) S (a_answers (a_rm S i) (S 586 (9 * i + 1)) (S 586 (9 * i)) (S 586 (9 * i + 3)) w) := by
    intro w
    have b2 : FB (S 586 (9 * i + 1)) S (a_ans2 (a_rm S i) (S 586 (9 * i + 1)) (S 586 (9 * i)) (S 586 (9 * i + 3)) w) := FB_o b0 (fun r x hr => an2_o (by unfold cr at hr; omega))
    have h8' : S 586 (9 * i + 1) < 6 → a_ans2 (a_rm S i) (S 586 (9 * i + 1)) (S 586 (9 * i)) (S 586 (9 * i + 3)) w 238 (S 586 (9 * i + 1)) ≤ 8 := fun _ => by rw [an2_o (by omega)]; exact h8
    unfold a_answers a_ans3
    split
    · exact b2
    · split
      · exact FB_givesAll b2 g.2.1 g.2.2.2.1 h8'
      · split
        · exact FB_gives b2 g.2.1 g.2.2.2.1 h8'
        · exact b2
  unfold a_del
  split
  · exact ans 0
  · split
    · exact ans 1
    · split
      · rename_i k
        have q := v.2.2.1 k
        have hx : ∀ x, wt x (fd S i) = z0 x + if S 586 (9 * i + 3) = x then S 586 (9 * i + 4) else 0 := fun x => by
          show (if fd S i 3 = x then fd S i 4 else 0) = 0 + _
          rw [f3, f4]; omega
        unfold a_comes
        split
        · exact FB_c272 (FB_take b0 g.2.2.2.1) g.2.1 g.2.2.2.1 (INV_take (ow := S 586 (9 * i + 5)) e1 g.2.1 g.2.2.2.1 g.2.2.2.2.2.2.1 hx)
        · exact FB_c82 (FB_o b0 (fun r x hr => re_o (by unfold cr at hr; omega))) (INV_rem e1 (by omega) g.1 g.2.2.2.1 (by omega)) (by omega) g.2.2.2.1 (by rw [re_o (by omega)]; omega) g.2.2.2.2.2.2.1 q.1 hx
      · split
        · rename_i k
          have q := v.2.2.2.1 (by omega)
          unfold a_asked
          split
          · exact b0
          · refine FB_settles ?_ g.2.1 g.2.2.2.1 (fun _ => by rw [ak1_o (by omega)]; exact h8)
            unfold a_asked1
            exact FB_sw (FB_sw (FB_sw (FB_sw (FB_sw b0 (Or.inr (by unfold INB; omega))) (Or.inr (by unfold INB; omega))) (Or.inr (by unfold INB; omega))) (Or.inr (by unfold INB; omega))) (Or.inr (by unfold INB; omega))
        · rename_i k
          have q := v.2.2.2.1 (by omega)
          unfold a_reca
          split
          · exact b0
          · refine FB_settles ?_ g.2.1 g.2.2.2.1 (fun _ => by rw [rc1_o (by omega)]; exact h8)
            unfold a_reca1
            exact FB_sw (FB_sw (FB_sw b0 (Or.inr (by unfold INB; omega))) (Or.inr (by unfold INB; omega))) (Or.inr (by unfold INB; omega))
/-! ===== a like delivery in a like state ===== -/
theorem ah_del {S T : a_S} {i k : Nat} (hc : ∀ r x, cr r → S r x = T r x) (h0 : S 1 0 = T 1 0) (h1 : S 1 1 = T 1 1) (h2 : S 1 2 = T 1 2) (h7 : S 1 7 = T 1 7) (hm : ∀ j, j < 9 → S 586 (9 * i + j) = T 586 (9 * k + j)) : AGM (S 1 7 - 1) (a_rm S i 586) (a_rm T k 586) (a_del S i) (a_del T k) := by
  have b : AGM (S 1 7 - 1) (a_rm S i 586) (a_rm T k 586) (a_rm S i) (a_rm T k) := by
    refine ⟨fun r x hr => ?_, ?_, ?_, ?_, ?_, ?_, fun j p q => ?_, fun j p => ⟨rfl, rfl⟩⟩
    · rw [rm_q (by unfold cr at hr; omega), rm_q (by unfold cr at hr; omega)]; exact hc r x hr
    · rw [rm_1 (by omega), rm_1 (by omega), h0]
    · rw [rm_1 (by omega), rm_1 (by omega), h1]
    · rw [rm_1 (by omega), rm_1 (by omega), h2]
    · rw [rm_7, rm_7, h7]
    · rw [rm_7]; exact Nat.le_refl _
    · rw [rm_7] at q; omega
  have m0 := hm 0 (by omega)
  rw [Nat.add_zero, Nat.add_zero] at m0
  unfold a_del
  rw [m0, hm 1 (by omega), hm 2 (by omega), hm 3 (by omega), hm 4 (by omega), hm 5 (by omega), hm 6 (by omega), hm 7 (by omega), hm 8 (by omega)]
  split
  · exact ah_answers b
  · split
    · exact ah_answers b
    · split
      · exact ah_comes b
      · split
        · exact ah_asked b
        · exact ah_reca b
