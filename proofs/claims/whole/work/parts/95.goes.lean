/-! ===== a token: the reference's number for it ===== -/
def tkm (f k v : Nat) : Nat := if k = 0 then 0 else if k = 1 then (if v ≤ 3 then v + 2 else if f = 0 then (if v ≤ 5 then v + 2 else 1) else (if 6 ≤ v then v + 2 else 1)) else if k = 2 then 2 else if k = 3 then 159 else if k = 4 then 223 else if k = 5 then 225 else 1
/-- v = 0: no word -/
theorem r_wordOf {M : j_M} {f v : Nat} (hf : M 200 23 = nI f) (hf2 : f < 2) (hv : v < 13) (h : ∀ w, 1 ≤ w → w < 13 → xX12_is (swid w) M = some (nI (if w = v then 1 else 0), M)) : xX12_wordOf M = some (nI (if v = 0 then 1 else tkm f 1 v), M) := by
  have i1 : xX12_is 328 M = some (nI (if 1 = v then 1 else 0), M) := h 1 (by omega) (by omega)
  have i2 : xX12_is 329 M = some (nI (if 2 = v then 1 else 0), M) := h 2 (by omega) (by omega)
  have i3 : xX12_is 330 M = some (nI (if 3 = v then 1 else 0), M) := h 3 (by omega) (by omega)
  have i4 : xX12_is 331 M = some (nI (if 4 = v then 1 else 0), M) := h 4 (by omega) (by omega)
  have i5 : xX12_is 332 M = some (nI (if 5 = v then 1 else 0), M) := h 5 (by omega) (by omega)
  have i6 : xX12_is 321 M = some (nI (if 6 = v then 1 else 0), M) := h 6 (by omega) (by omega)
  have i7 : xX12_is 322 M = some (nI (if 7 = v then 1 else 0), M) := h 7 (by omega) (by omega)
  have i8 : xX12_is 323 M = some (nI (if 8 = v then 1 else 0), M) := h 8 (by omega) (by omega)
  have i9 : xX12_is 324 M = some (nI (if 9 = v then 1 else 0), M) := h 9 (by omega) (by omega)
  have i10 : xX12_is 325 M = some (nI (if 10 = v then 1 else 0), M) := h 10 (by omega) (by omega)
  have i11 : xX12_is 326 M = some (nI (if 11 = v then 1 else 0), M) := h 11 (by omega) (by omega)
  have i12 : xX12_is 327 M = some (nI (if 12 = v then 1 else 0), M) := h 12 (by omega) (by omega)
  unfold xX12_wordOf xX12_planWord
  have hc : v = 0 ∨ v = 1 ∨ v = 2 ∨ v = 3 ∨ v = 4 ∨ v = 5 ∨ v = 6 ∨ v = 7 ∨ v = 8 ∨ v = 9 ∨ v = 10 ∨ v = 11 ∨ v = 12 := by omega
  have hg : f = 0 ∨ f = 1 := by omega
  rcases hg with rfl | rfl <;> rcases hc with rfl | rfl | rfl | rfl | rfl | rfl | rfl | rfl | rfl | rfl | rfl | rfl | rfl <;> simp only [i1, i2, i3, i4, i5, i6, i7, i8, i9, i10, i11, i12, e_obi2, e_oli2, hf, n10, n00, Nat.reduceEqDiff, Nat.reduceLeDiff, if_true, if_false, tkm, Nat.reduceAdd, Nat.reduceLT, Nat.one_ne_zero, Nat.zero_ne_one, reduceIte]
/-- what the reference then holds -/
def TOKR (M M' : j_M) (f k v pl nx : Nat) : Prop := M' 200 12 = nI nx ∧ M' 200 13 = nI (tkm f k v) ∧ M' 200 14 = nI pl ∧ (k = 2 → M' 200 15 = nI v) ∧ (∀ x, x ≠ 200 → M' x = M x) ∧ (∀ j, j < 12 ∨ 15 < j → M' 200 j = M 200 j)
theorem r_goesOn {T : Nat → Nat} {n p f k v pl nx : Nat} {M : j_M} (h : TR M T n) (h9 : M 200 12 = nI p) (hf : M 200 23 = nI f) (hf2 : f < 2) (hp : p ≤ n) (hx : LEX T n p k v pl nx) : ∃ M', xX12_goesOn M = some M' ∧ TOKR M M' f k v pl nx := by
  have hn := h.1
  have hb := LEX_b hx hp
  obtain ⟨h1, h2⟩ := hx
  have hT0 : TR (mw (mw M 200 12 (nI pl)) 200 14 (nI pl)) T n := TR_w (TR_w h (by omega)) (by omega)
  have f1 : ∀ x, x ≠ 200 → mw (mw M 200 12 (nI pl)) 200 14 (nI pl) x = M x := fun x hx => by rw [mw_oth hx, mw_oth hx]
  have f2 : ∀ j, j ≠ 12 → j ≠ 14 → mw (mw M 200 12 (nI pl)) 200 14 (nI pl) 200 j = M 200 j := fun j a b => by rw [mw_ne b, mw_ne a]
  have f9 : mw (mw M 200 12 (nI pl)) 200 14 (nI pl) 200 12 = nI pl := by rw [mw_ne (by omega), mw_at (by omega)]
  have f12 : mw (mw M 200 12 (nI pl)) 200 14 (nI pl) 200 14 = nI pl := mw_at (by omega)
  have st : xX12_goesOn M = xX12_goesOn_52 (mw M 200 12 (nI pl)) := by
    unfold xX12_goesOn
    rw [show fu = (999999 - (n - p)) + (n - p) + 1 by unfold fu; omega, r_go0 (n - p) p M h h9 (by omega), ← h1]
  rw [st]
  unfold xX12_goesOn_52
  rw [mw_at (by omega), e_oli2, e_oml2, f9, e_oli2]
  generalize mw (mw M 200 12 (nI pl)) 200 14 (nI pl) = M0 at *
  rw [hT0.2.1, e_oli2]
  simp (disch := omega) only [e_eq]
  have hf0 : M0 200 23 = nI f := by rw [f2 23 (by omega) (by omega), hf]
  rcases h2 with ⟨a, b, c⟩ | ⟨a, b, c, d⟩ | ⟨a, b, c, d, e, g⟩ | ⟨a, b, c, d, e⟩
  · rw [if_pos (by omega), e_oml2]
    subst b
    refine ⟨_, rfl, ?_, mw_at (by omega), ?_, fun q => by omega, fun x hx => ?_, fun j hj => ?_⟩
    · rw [mw_ne (by omega), f9, c]
    · rw [mw_ne (by omega), f12]
    · rw [mw_oth hx, f1 x hx]
    · rw [mw_ne (by omega), f2 j (by omega) (by omega)]
  · rw [if_neg (by omega), r_isL hT0 f9 (by omega), e_obi2, if_pos (show pl < n ∧ isL (T pl) from ⟨a, b⟩), if_neg (by decide), show fu = (999999 - (n - pl)) + (n - pl) + 1 by unfold fu; omega, r_go86 (n - pl) pl M0 hT0 f9 (by omega), ← c]
    have q0 : TR (mw M0 200 12 (nI nx)) T n := TR_w hT0 (by omega)
    have q9 : mw M0 200 12 (nI nx) 200 12 = nI nx := mw_at (by omega)
    have q12 : mw M0 200 12 (nI nx) 200 14 = nI pl := by rw [mw_ne (by omega), f12]
    have qf : mw M0 200 12 (nI nx) 200 23 = nI f := by rw [mw_ne (by omega), hf0]
    have hL : ∀ i, pl ≤ i → i < nx → isL (T i) := fun i h1 h2 => run_in (n - pl) pl i h1 (by omega)
    have fin : ∀ z, z = tkm f k v → k ≠ 2 → TOKR M (mw (mw M0 200 12 (nI nx)) 200 13 (nI z)) f k v pl nx := by
      intro z hz hk
      refine ⟨?_, by rw [mw_at (by omega), hz], ?_, fun q => by omega, fun x hx => ?_, fun j hj => ?_⟩
      · rw [mw_ne (by omega), q9]
      · rw [mw_ne (by omega), q12]
      · rw [mw_oth hx, mw_oth hx, f1 x hx]
      · rw [mw_ne (by omega), mw_ne (by omega), f2 j (by omega) (by omega)]
    rcases d with ⟨d1, d2, d3, d4⟩ | ⟨d1, d2⟩
    · rw [r_wordOf (v := v) qf hf2 d3 (fun w w1 w2 => ?_), e_obi2, e_oml2]
      · exact ⟨_, rfl, fin _ (by rw [if_neg (by omega), d1]) (by omega)⟩
      · rcases r_is q0 q9 q12 (by omega) (by omega) hL w2 w1 with ⟨m1, m2⟩ | ⟨m1, m2⟩
        · rw [m2, if_pos (mt_u w2 w1 d3 d2 m1 d4)]
        · rw [m2, if_neg (fun q => m1 (by rw [q]; exact d4))]
    · rw [r_wordOf (v := 0) qf hf2 (by omega) (fun w w1 w2 => ?_), e_obi2, e_oml2]
      · exact ⟨_, rfl, fin _ (by rw [if_pos rfl, d1]; rfl) (by omega)⟩
      · rcases r_is q0 q9 q12 (by omega) (by omega) hL w2 w1 with ⟨m1, m2⟩ | ⟨m1, m2⟩
        · exact absurd m1 (d2 w w1 w2)
        · rw [m2, if_neg (by omega)]
  · rw [if_neg (by omega), r_isL hT0 f9 (by omega), e_obi2, if_neg (show ¬ (pl < n ∧ isL (T pl)) from fun q => b q.2), if_pos (by decide), r_isD hT0 f9 (by omega), e_obi2, if_pos (show pl < n ∧ isD (T pl) from ⟨a, c⟩), if_neg (by decide), e_oml2, show fu = (999999 - (n - pl)) + (n - pl) + 1 by unfold fu; omega, r_go129 (pl := pl) (n - pl) pl 0 _ (TR_w hT0 (by omega)) (by rw [mw_ne (by omega), f9]) (by rw [mw_ne (by omega), f12]) (mw_at (by omega)) (by omega) (by omega), ← d]
    refine ⟨_, rfl, ?_, ?_, ?_, fun q => ?_, fun x hx => ?_, fun j hj => ?_⟩
    · rw [mw_ne (by omega), mw_ne (by omega), mw_at (by omega)]
    · rw [mw_at (by omega)]
      rcases g with ⟨d1, d2⟩ | ⟨d1, d2⟩
      · rw [if_pos d2, d1]; rfl
      · rw [if_neg (by omega), d1]; rfl
    · rw [mw_ne (by omega), mw_ne (by omega), mw_ne (by omega), mw_ne (by omega), f12]
    · rw [mw_ne (by omega), mw_at (by omega), rdg_e _ _ _ (by omega), e]
    · rw [mw_oth hx, mw_oth hx, mw_oth hx, mw_oth hx, f1 x hx]
    · rw [mw_ne (by omega), mw_ne (by omega), mw_ne (by omega), mw_ne (by omega), f2 j (by omega) (by omega)]
  · rw [if_neg (by omega), r_isL hT0 f9 (by omega), e_obi2, if_neg (show ¬ (pl < n ∧ isL (T pl)) from fun q => b q.2), if_pos (by decide), r_isD hT0 f9 (by omega), e_obi2, if_neg (show ¬ (pl < n ∧ isD (T pl)) from fun q => c q.2), if_pos (by decide), f9, e_oli2, e_gd (by omega) (by omega), e_ix2 (by omega), e_oli2]
    simp only [te hT0 a (show 59 < 128 by omega), te hT0 a (show 123 < 128 by omega), te hT0 a (show 125 < 128 by omega)]
    have hT := hT0.2.2 pl a
    have fin : ∀ z, z = tkm f k v → k ≠ 2 → TOKR M (mw (mw M0 200 13 (nI z)) 200 12 (nI (pl + 1))) f k v pl nx := by
      intro z hz hk
      refine ⟨by rw [mw_at (by omega), d], ?_, ?_, fun q => by omega, fun x hx => ?_, fun j hj => ?_⟩
      · rw [mw_ne (by omega), mw_at (by omega), hz]
      · rw [mw_ne (by omega), mw_ne (by omega), f12]
      · rw [mw_oth hx, mw_oth hx, f1 x hx]
      · rw [mw_ne (by omega), mw_ne (by omega), f2 j (by omega) (by omega)]
    have g2 : ∀ z : Nat, xX12_goesOn_252 (nI z) M0 = some (mw (mw M0 200 13 (nI z)) 200 12 (nI (pl + 1))) := by
      intro z
      unfold xX12_goesOn_252
      rw [e_oml2, mw_ne (by omega), f9, e_oli2, e_oml2, e_add]
    unfold xX12_goesOn_244
    rcases e with ⟨e1, rfl⟩ | ⟨e1, rfl⟩ | ⟨e1, rfl⟩ | ⟨e1, e2, e3, rfl⟩
    · rw [if_pos e1, hT.2.1 (by omega), e_add, g2]
      exact ⟨_, rfl, fin _ (by rw [e1]; rfl) (by omega)⟩
    · rw [if_neg (by omega), if_pos e1, hT.2.1 (by omega), e_add, g2]
      exact ⟨_, rfl, fin _ (by rw [e1]; rfl) (by omega)⟩
    · rw [if_neg (by omega), if_neg (by omega), if_pos e1, hT.2.1 (by omega), e_add, g2]
      exact ⟨_, rfl, fin _ (by rw [e1]; rfl) (by omega)⟩
    · rw [if_neg e1, if_neg e2, if_neg e3, g2]
      exact ⟨_, rfl, fin _ rfl (by omega)⟩
