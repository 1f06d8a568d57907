/-! ===== the trace holds small numbers ===== -/
def TRC (S : a_S) : Prop := ∀ j, j < 100 → S 6962 (4 * j) ≤ 10100 ∧ S 6962 (4 * j + 1) < 8 ∧ S 6962 (4 * j + 2) < 8 ∧ S 6962 (4 * j + 3) < 8
theorem TRC_c {S S' : a_S} (h : TRC S) (h1 : ∀ i, S' 6962 i = S 6962 i) : TRC S' := by
  intro j hj
  rw [h1, h1, h1, h1]
  exact h j hj
theorem TRC_notes {S : a_S} {w c l : Nat} (h : TRC S) (hr : RG S) (hw : w < 8) (hc : c < 8) (hl : l < 8) : TRC (a_notes S w c l) := by
  intro j hj
  have hj1 := h j hj
  have htk := g_tk hr
  have q : ∀ i, a_notes S w c l 6962 i = if i = 4 * (S 6961 0 % 100) + 3 then l else if i = 4 * (S 6961 0 % 100) + 2 then c else if i = 4 * (S 6961 0 % 100) + 1 then w else if i = 4 * (S 6961 0 % 100) then S 1 5 else S 6962 i := by
    intro i
    unfold a_notes sw
    simp only [Nat.reduceEqDiff, false_and, if_false, true_and]
  rw [q, q, q, q]
  by_cases e : j = S 6961 0 % 100
  · refine ⟨?_, ?_, ?_, ?_⟩ <;> (repeat' split) <;> omega
  · refine ⟨?_, ?_, ?_, ?_⟩ <;> (repeat' split) <;> omega
theorem TRC_settles {S : a_S} {nd l : Nat} (h : TRC S) : TRC (a_settles S nd l) := by
  refine TRC_c h (fun i => ?_)
  unfold a_settles a_givesAll
  (repeat' split) <;> first | rfl | exact ag_o (by omega)
theorem TRC_ends {S : a_S} {c l : Nat} (h : TRC S) (hr : RG S) (hc : c < 8) (hl : l < 8) : TRC (a_ends S c l) := by
  have e3 : ∀ i, a_ends3 S c l 6962 i = a_notes S 2 c l 6962 i := fun i => by
    unfold a_ends3 a_ends2 a_ends1
    simp (disch := omega) only [sw_r, ad_o]
  refine TRC_c (TRC_notes (w := 2) h hr (by omega) hc hl) (fun i => ?_)
  unfold a_ends
  split
  · rw [at_o (by omega)]
    unfold a_ends4
    rw [mk_o (by omega), sw_r (by omega), e3]
  · exact e3 i
theorem TRC_c272 {S : a_S} {nd l : Nat} (h : TRC S) (hr : RG S) (hd : nd < 7) (hl : l < 8) : TRC (a_c272 S nd l) := by
  unfold a_c272
  split
  · exact TRC_settles (TRC_ends h hr (by omega) hl)
  · exact TRC_settles h
theorem TRC_c178 {S : a_S} {nd l mn ow wi : Nat} {hh h' : Nat → Nat} (h : TRC S) (hi : INV S hh) (hd : nd < 6) (hl : l < 8) (hw : wi ≤ 10000) (hm : 1 ≤ mn) (hx : ∀ x, hh x = h' x + if l = x then mn else 0) : TRC (a_c178 S nd l mn ow wi) := by
  unfold a_c178
  split
  · exact TRC_c272 (TRC_c h (fun i => by rw [ta_o (by omega), us_o (by omega)])) (INV_usetake hi hd hl hw hm hx).1 (by omega) hl
  · exact TRC_c272 (TRC_c h (fun i => by rw [ta_o (by omega)])) (INV_take hi (by omega) hl hw hx).1 (by omega) hl
theorem TRC_del {S : a_S} {i : Nat} (h : TRC S) (hi : INV S z0) (hlt : i < S 1 7) : TRC (a_del S i) := by
  have g := g_f hi.1 i
  have v := hi.2.2.2.1 i hlt
  unfold VMf at v
  have f0 : fd S i 0 = S 586 (9 * i) := rfl
  have f1 : fd S i 1 = S 586 (9 * i + 1) := rfl
  have f2 : fd S i 2 = S 586 (9 * i + 2) := rfl
  have f3 : fd S i 3 = S 586 (9 * i + 3) := rfl
  have f4 : fd S i 4 = S 586 (9 * i + 4) := rfl
  have f7 : fd S i 7 = S 586 (9 * i + 7) := rfl
  have f8 : fd S i 8 = S 586 (9 * i + 8) := rfl
  rw [f0, f1, f2, f4, f7, f8] at v
  have er : TRC (a_rm S i) := TRC_c h (fun j => rm_q (by omega))
  have ea : ∀ nd f l w, TRC (a_answers (a_rm S i) nd f l w) := by
    intro nd f l w
    refine TRC_c er (fun j => ?_)
    have e2 : a_ans2 (a_rm S i) nd f l w 6962 j = a_rm S i 6962 j := an2_o (by omega)
    unfold a_answers a_ans3 a_givesAll
    (repeat' split) <;> first | exact e2 | rw [ag_o (by omega), e2]
  unfold a_del
  (repeat' split)
  · exact ea _ _ _ _
  · exact ea _ _ _ _
  · rename_i k3
    have q := v.2.2.1 k3
    have n0 : a_rm S i 1 0 = S 1 0 := rm_1 (by omega)
    have i1 : INV (a_rm S i) (fun x => wt x (fd S i)) := INV_rm hi hlt (fun x => by show _ = 0 + _; omega)
    have hx : ∀ x, wt x (fd S i) = z0 x + if S 586 (9 * i + 3) = x then S 586 (9 * i + 4) else 0 := fun x => by
      show (if fd S i 3 = x then fd S i 4 else 0) = 0 + _
      rw [f3, f4]; omega
    unfold a_comes
    split
    · exact TRC_c272 (TRC_c er (fun j => ta_o (by omega))) (INV_take (ow := S 586 (9 * i + 5)) i1 g.2.1 g.2.2.2.1 g.2.2.2.2.2.2.1 hx).1 g.2.1 g.2.2.2.1
    · have i2 := INV_rem (nd := S 586 (9 * i + 1)) (f := S 586 (9 * i)) (l := S 586 (9 * i + 3)) i1 (by omega) g.1 g.2.2.2.1 (by omega)
      have e2 : TRC (a_rem (a_rm S i) (S 586 (9 * i + 1)) (S 586 (9 * i)) (S 586 (9 * i + 3))) := TRC_c er (fun j => re_o (by omega))
      have hN : S 586 (9 * i + 1) < a_rem (a_rm S i) (S 586 (9 * i + 1)) (S 586 (9 * i)) (S 586 (9 * i + 3)) 1 0 := by rw [re_o (by omega)]; omega
      generalize a_rem (a_rm S i) (S 586 (9 * i + 1)) (S 586 (9 * i)) (S 586 (9 * i + 3)) = R at *
      have sc := i2.2.2.2.2.2.2.1
      unfold SC at sc
      unfold a_c82
      split
      · rename_i h1
        split
        · have u0 := (i2.2.2.1 (S 586 (9 * i + 1)) (by omega)).1 0 (by omega)
          simp only [Nat.add_zero] at u0
          have ne : R 244 (8 * S 586 (9 * i + 1)) ≠ S 586 (9 * i + 3) := by
            intro e
            rw [e] at u0
            exact u0 h1.1
          have el : a_eld R (S 586 (9 * i + 1)) (S 586 (9 * i + 3)) = R 244 (8 * S 586 (9 * i + 1)) := by
            unfold a_eld
            rw [if_neg ne]
          have l8 := g_l i2.1 244 (8 * S 586 (9 * i + 1)) (Or.inl rfl)
          rw [el]
          have e3 : TRC (a_evicts R (S 586 (9 * i + 1)) (R 244 (8 * S 586 (9 * i + 1)))) := by
            refine TRC_c (TRC_notes (w := 4) (c := S 586 (9 * i + 1)) (l := R 244 (8 * S 586 (9 * i + 1))) e2 i2.1 (by omega) (by omega) l8) (fun j => ?_)
            unfold a_evicts a_givesAll
            rw [sw_r (by omega), ag_o (by omega)]
          exact TRC_c178 e3 (INV_evicts i2 hN l8 u0) (by omega) g.2.2.2.1 g.2.2.2.2.2.2.1 q.1 hx
        · exact TRC_c (TRC_notes (w := 5) e2 i2.1 (by omega) (by omega) g.2.2.2.1) (fun j => as_o (by omega))
      · exact TRC_c178 e2 i2 (by omega) g.2.2.2.1 g.2.2.2.2.2.2.1 q.1 hx
  · unfold a_asked
    split
    · exact er
    · exact TRC_settles (TRC_c er (fun j => ak1_o (by omega)))
  · unfold a_reca
    split
    · exact er
    · exact TRC_settles (TRC_c er (fun j => rc1_o (by omega)))
theorem TRC_begins {S : a_S} {c l w v : Nat} (h : TRC S) (hr : RG S) (hc : c < 8) (hl : l < 8) (hw : w < 4) (hv : v < 10000) : TRC (a_begins S c l w v) := by
  unfold a_begins
  split
  · exact TRC_c (TRC_notes (w := 0) (c := c) (l := l) (TRC_c h (fun i => hi0_o (by omega))) (RG_hit0 hr) (by omega) hc hl) (fun i => by unfold a_hit; rw [ad_o (by omega)])
  · exact TRC_c (TRC_notes (w := 1) (c := c) (l := l) (TRC_c h (fun i => mi0_o (by omega))) (RG_mis0 (c := c) hr hl hw hv) (by omega) hc hl) (fun i => by unfold a_mis; rw [ask_o (by omega)])
theorem TRC_tof {S : a_S} {c : Nat} (h : TRC S) (hi : INV S z0) (hc : c < 6) (hs : S 316 (6 * c + c) < S 1 5) : TRC (a_ticksOf S c) := by
  have g := g_mv hi.1 c
  have htk := g_tk hi.1
  unfold a_ticksOf
  split
  · exact h
  · split
    · exact TRC_c (TRC_notes (w := 6) (c := c) (l := S 292 c - 1) (TRC_c h (fun i => tk0_o (by omega))) (RG_tk0 (c := c) hi.1) (by omega) (by omega) (by omega)) (fun i => by unfold a_tk1; rw [ask_o (by omega)])
    · unfold a_afg
      refine TRC_settles (TRC_c (TRC_notes (w := 3) (c := c) (l := S 292 c - 1) (TRC_c h (fun i => af1_o (S := S) (c := c) (l := S 292 c - 1) (w := if S 298 c = 1 then 1 else 2) (by omega))) (RG_afg1 hi.1 (by omega) (by omega) (by split <;> omega)) (by omega) (by omega) (by omega)) (fun i => ?_))
      unfold a_afg3 a_afg2
      rw [sw_r (by omega), sw_r (by omega), sw_r (by omega), at_o (by omega)]
theorem TRC_tickL : ∀ (m c : Nat) (S : a_S), TRC S → INV S z0 → c + m = S 1 0 → (∀ d, c ≤ d → d < S 1 0 → S 316 (6 * d + d) < S 1 5) → TRC (a_tickL m c S)
  | 0, _, _, h, _, _, _ => h
  | m + 1, c, S, h, hi, hm, hs => by
    have hn := g_n hi.1
    have e0 : a_ticksOf S c 1 0 = S 1 0 := st_tof (Or.inl ⟨rfl, by omega⟩)
    have e5 : a_ticksOf S c 1 5 = S 1 5 := st_tof (Or.inl ⟨rfl, by omega⟩)
    rw [tl_s]
    refine TRC_tickL m (c + 1) _ (TRC_tof h hi (by omega) (hs c (by omega) (by omega))) (INV_ticksOf hi (by omega) (by omega) (hs c (by omega) (by omega))) (by rw [e0]; omega) (fun d h1 h2 => ?_)
    rw [tof_316 (by omega), e5]
    rw [e0] at h2
    exact hs d (by omega) h2
theorem TRC_tick {S : a_S} (h : TRC S) (hi : INV S z0) (ht : S 1 5 < 10100) : TRC (a_tick S) := by
  have hn := g_n hi.1
  unfold a_tick
  refine TRC_tickL (S 1 0) 0 _ (TRC_c h (fun i => t0_o (by omega))) (INV_t0 hi ht) (by rw [t0_o (by omega)]; omega) (fun d _ h2 => ?_)
  rw [t0_o (by omega)] at h2
  have := (hi.2.2.2.2.2.2.2.2.2.1 d (by omega)).2.2
  rw [t0_o (by omega), t0_5]
  omega
theorem TRC_cD : ∀ (m : Nat) (S : a_S), TRC S → INV S z0 → TRC (a_cD m S)
  | 0, _, h, _ => h
  | m + 1, S, h, hi => by
    rw [cD_s]
    split
    · exact h
    · exact TRC_cD m _ (TRC_del h hi (by omega)) (INV_del hi (by omega))
theorem TRC_calm1 {S : a_S} (h : TRC S) (hi : INV S z0) (h5 : S 1 5 < 10100) : TRC (a_calm1 S) :=
  TRC_tick (TRC_cD 2000 S h hi) (INV_cD 2000 S hi) (by rw [st_cD (Or.inl ⟨rfl, by omega⟩)]; exact h5)
theorem TRC_cR : ∀ (m : Nat) (S : a_S), TRC S → INV S z0 → S 1 5 + m ≤ 10100 → TRC (a_cR m S)
  | 0, _, h, _, _ => h
  | m + 1, S, h, hi, h5 => by
    rw [cR_s]
    exact TRC_cR m _ (TRC_calm1 h hi (by omega)) (INV_calm1 hi (by omega)) (by rw [calm1_5]; omega)
theorem TRC_tkN : ∀ (m : Nat) (S : a_S), TRC S → INV S z0 → S 1 5 + m ≤ 10100 → TRC (a_tkN m S)
  | 0, _, h, _, _ => h
  | m + 1, S, h, hi, h5 => by
    rw [tkN_s]
    exact TRC_tkN m _ (TRC_tick h hi (by omega)) (INV_tick hi (by omega)) (by rw [tick_5]; omega)
theorem TRC_ds {b : Nat} : ∀ (m : Nat) (S : a_S), TRC S → INV S z0 → TRC (a_ds b m S)
  | 0, _, h, _ => h
  | m + 1, S, h, hi => by
    rw [ds_s]
    split
    · exact h
    · exact TRC_ds m _ (TRC_del h hi (by split <;> omega)) (INV_del hi (by split <;> omega))
theorem TRC_acts {S : a_S} {c : Nat} (h : TRC S) (hi : INV S z0) (hp : PR S) (hc : c < S 1 0) : TRC (a_acts S c) := by
  have hn := g_n hi.1
  have hc1 := hp.1 c (by omega)
  unfold a_acts
  split
  · exact h
  · rename_i h0
    have ha := hp.2.1 c (S 3118 c) (by omega) (by omega)
    unfold AOK at ha
    simp only [Nat.add_zero] at ha
    split
    · exact TRC_c h (fun i => by rw [sw_r (by omega), sw_r (by omega)])
    · exact TRC_begins (TRC_c h (fun i => by rw [sw_r (by omega)])) (INV_scr hi (fun r i a b _ _ => by rw [sw_r a])).1 (by omega) (by omega) (by omega) (by omega)
theorem TRC_actL : ∀ (m c : Nat) (S : a_S), TRC S → INV S z0 → PR S → c + m ≤ S 1 0 → TRC (a_actL m c S)
  | 0, _, _, h, _, _, _ => h
  | m + 1, c, S, h, hi, hp, hm => by
    have hn := g_n hi.1
    have e0 : a_acts S c 1 0 = S 1 0 := st_acts (Or.inl ⟨rfl, by omega⟩) (by omega)
    rw [actL_s]
    exact TRC_actL m (c + 1) _ (TRC_acts h hi hp (by omega)) (INV_acts hi hp (by omega)) (PR_acts hp (by omega) (g_tk hi.1)) (by rw [e0]; omega)
theorem TRC_gd {o : Nat} : ∀ (k : Nat) (S : a_S), TRC S → INV S z0 → TRC (a_gd o k S)
  | 0, _, h, _ => h
  | k + 1, S, h, hi => by
    rw [gd_s]
    split
    · exact h
    · split
      · exact TRC_gd k _ (TRC_del h hi (by omega)) (INV_del hi (by omega))
      · split
        · exact TRC_gd k _ (TRC_del h hi (by omega)) (INV_del hi (by omega))
        · have hl : a_dr S 1 6 / 256 % S 1 7 < a_dr S 1 7 := by
            rw [dr_o (r := 1) (i := 7) (by omega)]
            exact Nat.mod_lt _ (by omega)
          exact TRC_gd k _ (TRC_del (TRC_c h (fun i => dr_o (by omega))) (INV_dr hi) hl) (INV_del (INV_dr hi) hl)
theorem TRC_goN {o : Nat} : ∀ (m : Nat) (S : a_S), TRC S → INV S z0 → PR S → S 1 5 + m ≤ 10100 → TRC (a_goN o m S)
  | 0, _, h, _, _, _ => h
  | m + 1, S, h, hi, hp, h5 => by
    have h1 := OK_go1 (o := o) hi hp (by omega)
    have hn := g_n hi.1
    have a1 := OK_actL (S 1 0) 0 S hi hp (by omega)
    have a2 := OK_gd (o := o) 3 _ a1.1
    have e5 : a_gd o 3 (a_actL (S 1 0) 0 S) 1 5 = S 1 5 := by
      rw [a2.2.2.1 1 5 (Or.inl ⟨rfl, by omega⟩) (by omega), st_actL (Or.inl ⟨rfl, by omega⟩) (by omega)]
    have t1 : TRC (a_go1 o S) := TRC_tick (TRC_gd 3 _ (TRC_actL (S 1 0) 0 S h hi hp (by omega)) a1.1) a2.1 (by omega)
    rw [goN_s]
    exact TRC_goN m _ t1 h1.1 h1.2.1 (by omega)
