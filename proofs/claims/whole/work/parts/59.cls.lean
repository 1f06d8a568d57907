/-! ===== the class's caches and log at id t, as a function of S ===== -/
def hv (S : a_S) (i : Nat) : Nat := hvv (S 14 i) (S 70 i) (S 126 i) (S 182 i)
def ev (S : a_S) (i : Nat) : Nat := evv (S 358 i) (S 484 i) (S 442 i) (S 400 i) (S 316 i)
def ud (S : a_S) (c k : Nat) : Nat := if k < S 238 c then S 244 (8 * c + k) + 1 else 0
def uo (S : a_S) (c : Nat) : Nat := sm (fun k => ud S c k * 16 ^ k) 8
def msv (S : a_S) (c : Nat) : Nat := if S 292 c = 0 then 0 else mvv (S 298 c) (S 292 c - 1) (S 310 c) (S 304 c)
def cgv (g : Nat → Nat) : Nat := g 4 + 16 * g 5 + 32 * g 6 + g 8 + 4 * g 7
def lcv (g : Nat → Nat) : Nat := if g 2 = 0 then 0 else lvv (g 0) (g 1) (g 2) (g 3) (cgv g)
def tv (S : a_S) (j : Nat) : Nat := 512 * S 6962 (4 * j) + 64 * S 6962 (4 * j + 1) + 8 * S 6962 (4 * j + 2) + S 6962 (4 * j + 3)
def cell (S : a_S) (j : Nat) : Nat :=
  if j % 16 < 8 then hv S (8 * ((j / 16 + 6) % 7) + j % 16)
  else if j % 16 < 14 then ev S (6 * ((j / 16 + 6) % 7) + (j % 16 - 8))
  else if j / 16 = 0 then 0 else if j % 16 = 14 then uo S (j / 16 - 1) else msv S (j / 16 - 1)
def cv (S : a_S) (k j : Nat) : Int32 :=
  if k = 0 then nI (S 1 (if j = 8 then 7 else j - 9))
  else if k = 1 then nI (cell S j)
  else if k = 2 then nI (lcv (fd S j))
  else if k = 3 then oI (S 538 j)
  else if k = 4 then nI (S 6766 j)
  else if k = 5 then nI (S 526 j)
  else if k = 6 then nI (S 532 j)
  else if k = 7 then nI (S 6730 j)
  else if k = 8 then nI (if j = 11 then S 6961 0 else if j = 12 then S 1 8 else if j = 13 then S 1 12 else S 1 13)
  else if k = 9 then nI (tv S j)
  else if k = 10 then nI (S 6814 (3 * j))
  else if k = 11 then nI (S 6814 (3 * j + 1))
  else if k = 12 then nI (S 6814 (3 * j + 2))
  else if k = 13 then nI (S 2752 j)
  else if k = 14 then nI (S 2746 j)
  else nI (S 6736 (5 * j + (k - 15)))
def cl (k : Nat) : Nat := if k = 0 then 8 else if k = 8 then 11 else 0
def ch (k : Nat) : Nat := if k = 0 then 15 else if k = 1 then 112 else if k = 2 then 240 else if k = 3 then 48 else if k = 4 then 48 else if k = 8 then 15 else if k = 9 then 100 else if k = 10 then 49 else if k = 11 then 49 else if k = 12 then 49 else if k = 13 then 360 else 6
def XS (N : j_M) (t : Nat) (S : a_S) : j_M := fun x j => if t ≤ x ∧ x < t + 20 ∧ cl (x - t) ≤ j ∧ j < ch (x - t) then cv S (x - t) j else N x j
/-- what a place depends on -/
def cu1 (j r i : Nat) : Prop :=
  (j % 16 < 8 ∧ (r = 14 ∨ r = 70 ∨ r = 126 ∨ r = 182) ∧ i = 8 * ((j / 16 + 6) % 7) + j % 16) ∨
  (8 ≤ j % 16 ∧ j % 16 < 14 ∧ (r = 358 ∨ r = 484 ∨ r = 442 ∨ r = 400 ∨ r = 316) ∧ i = 6 * ((j / 16 + 6) % 7) + (j % 16 - 8)) ∨
  (j % 16 = 14 ∧ 1 ≤ j / 16 ∧ ((r = 238 ∧ i = j / 16 - 1) ∨ (r = 244 ∧ 8 * (j / 16 - 1) ≤ i ∧ i < 8 * (j / 16 - 1) + 8))) ∨
  (j % 16 = 15 ∧ 1 ≤ j / 16 ∧ (r = 292 ∨ r = 298 ∨ r = 304 ∨ r = 310) ∧ i = j / 16 - 1)
def cu (k j r i : Nat) : Prop :=
  (k = 0 ∧ r = 1 ∧ ((j = 8 ∧ i = 7) ∨ (j ≠ 8 ∧ i = j - 9))) ∨ (k = 1 ∧ cu1 j r i) ∨ (k = 2 ∧ r = 586 ∧ 9 * j ≤ i ∧ i < 9 * j + 9) ∨
  (k = 3 ∧ r = 538 ∧ i = j) ∨ (k = 4 ∧ r = 6766 ∧ i = j) ∨ (k = 5 ∧ r = 526 ∧ i = j) ∨ (k = 6 ∧ r = 532 ∧ i = j) ∨ (k = 7 ∧ r = 6730 ∧ i = j) ∨
  (k = 8 ∧ ((j = 11 ∧ r = 6961 ∧ i = 0) ∨ (j = 12 ∧ r = 1 ∧ i = 8) ∨ (j = 13 ∧ r = 1 ∧ i = 12) ∨ (j ≠ 11 ∧ j ≠ 12 ∧ j ≠ 13 ∧ r = 1 ∧ i = 13))) ∨
  (k = 9 ∧ r = 6962 ∧ 4 * j ≤ i ∧ i < 4 * j + 4) ∨ (k = 10 ∧ r = 6814 ∧ i = 3 * j) ∨ (k = 11 ∧ r = 6814 ∧ i = 3 * j + 1) ∨ (k = 12 ∧ r = 6814 ∧ i = 3 * j + 2) ∨
  (k = 13 ∧ r = 2752 ∧ i = j) ∨ (k = 14 ∧ r = 2746 ∧ i = j) ∨ (15 ≤ k ∧ r = 6736 ∧ i = 5 * j + (k - 15))
theorem cv_0 {S : a_S} {j : Nat} : cv S 0 j = nI (S 1 (if j = 8 then 7 else j - 9)) := rfl
theorem cv_1 {S : a_S} {j : Nat} : cv S 1 j = nI (cell S j) := rfl
theorem cv_2 {S : a_S} {j : Nat} : cv S 2 j = nI (lcv (fd S j)) := rfl
theorem cv_3 {S : a_S} {j : Nat} : cv S 3 j = oI (S 538 j) := rfl
theorem cv_4 {S : a_S} {j : Nat} : cv S 4 j = nI (S 6766 j) := rfl
theorem cv_5 {S : a_S} {j : Nat} : cv S 5 j = nI (S 526 j) := rfl
theorem cv_6 {S : a_S} {j : Nat} : cv S 6 j = nI (S 532 j) := rfl
theorem cv_7 {S : a_S} {j : Nat} : cv S 7 j = nI (S 6730 j) := rfl
theorem cv_8 {S : a_S} {j : Nat} : cv S 8 j = nI (if j = 11 then S 6961 0 else if j = 12 then S 1 8 else if j = 13 then S 1 12 else S 1 13) := rfl
theorem cv_9 {S : a_S} {j : Nat} : cv S 9 j = nI (tv S j) := rfl
theorem cv_10 {S : a_S} {j : Nat} : cv S 10 j = nI (S 6814 (3 * j)) := rfl
theorem cv_11 {S : a_S} {j : Nat} : cv S 11 j = nI (S 6814 (3 * j + 1)) := rfl
theorem cv_12 {S : a_S} {j : Nat} : cv S 12 j = nI (S 6814 (3 * j + 2)) := rfl
theorem cv_13 {S : a_S} {j : Nat} : cv S 13 j = nI (S 2752 j) := rfl
theorem cv_14 {S : a_S} {j : Nat} : cv S 14 j = nI (S 2746 j) := rfl
theorem cv_15 {S : a_S} {j : Nat} : cv S 15 j = nI (S 6736 (5 * j + 0)) := rfl
theorem cv_16 {S : a_S} {j : Nat} : cv S 16 j = nI (S 6736 (5 * j + 1)) := rfl
theorem cv_17 {S : a_S} {j : Nat} : cv S 17 j = nI (S 6736 (5 * j + 2)) := rfl
theorem cv_18 {S : a_S} {j : Nat} : cv S 18 j = nI (S 6736 (5 * j + 3)) := rfl
theorem cv_19 {S : a_S} {j : Nat} : cv S 19 j = nI (S 6736 (5 * j + 4)) := rfl
theorem cell_c {S S' : a_S} {j : Nat} (h : ∀ r i, cu1 j r i → S' r i = S r i) : cell S' j = cell S j := by
  unfold cell
  by_cases c1 : j % 16 < 8
  · rw [if_pos c1, if_pos c1]
    unfold hv
    rw [h 14 _ (Or.inl ⟨c1, by omega, rfl⟩), h 70 _ (Or.inl ⟨c1, by omega, rfl⟩), h 126 _ (Or.inl ⟨c1, by omega, rfl⟩), h 182 _ (Or.inl ⟨c1, by omega, rfl⟩)]
  · rw [if_neg c1, if_neg c1]
    by_cases c2 : j % 16 < 14
    · rw [if_pos c2, if_pos c2]
      unfold ev
      rw [h 358 _ (Or.inr (Or.inl ⟨by omega, c2, by omega, rfl⟩)), h 484 _ (Or.inr (Or.inl ⟨by omega, c2, by omega, rfl⟩)), h 442 _ (Or.inr (Or.inl ⟨by omega, c2, by omega, rfl⟩)), h 400 _ (Or.inr (Or.inl ⟨by omega, c2, by omega, rfl⟩)), h 316 _ (Or.inr (Or.inl ⟨by omega, c2, by omega, rfl⟩))]
    · rw [if_neg c2, if_neg c2]
      by_cases c3 : j / 16 = 0
      · rw [if_pos c3, if_pos c3]
      · rw [if_neg c3, if_neg c3]
        by_cases c4 : j % 16 = 14
        · rw [if_pos c4, if_pos c4]
          unfold uo
          apply sm_c
          intro k hk
          unfold ud
          rw [h 238 _ (Or.inr (Or.inr (Or.inl ⟨c4, by omega, Or.inl ⟨rfl, rfl⟩⟩))), h 244 _ (Or.inr (Or.inr (Or.inl ⟨c4, by omega, Or.inr ⟨rfl, by omega, by omega⟩⟩)))]
        · rw [if_neg c4, if_neg c4]
          unfold msv
          rw [h 292 _ (Or.inr (Or.inr (Or.inr ⟨by omega, by omega, by omega, rfl⟩))), h 298 _ (Or.inr (Or.inr (Or.inr ⟨by omega, by omega, by omega, rfl⟩))), h 304 _ (Or.inr (Or.inr (Or.inr ⟨by omega, by omega, by omega, rfl⟩))), h 310 _ (Or.inr (Or.inr (Or.inr ⟨by omega, by omega, by omega, rfl⟩)))]
theorem lcv_c {g g' : Nat → Nat} (h : ∀ j, j < 9 → g' j = g j) : lcv g' = lcv g := by
  unfold lcv cgv
  rw [h 0 (by omega), h 1 (by omega), h 2 (by omega), h 3 (by omega), h 4 (by omega), h 5 (by omega), h 6 (by omega), h 7 (by omega), h 8 (by omega)]
theorem cv_c {S S' : a_S} {k j : Nat} (hk : k < 20) (h : ∀ r i, cu k j r i → S' r i = S r i) : cv S' k j = cv S k j := by
  by_cases hb : 15 ≤ k
  · have e : ∀ T : a_S, cv T k j = nI (T 6736 (5 * j + (k - 15))) := by
      intro T
      unfold cv
      rw [if_neg (by omega), if_neg (by omega), if_neg (by omega), if_neg (by omega), if_neg (by omega), if_neg (by omega), if_neg (by omega), if_neg (by omega), if_neg (by omega), if_neg (by omega), if_neg (by omega), if_neg (by omega), if_neg (by omega), if_neg (by omega), if_neg (by omega)]
    rw [e, e, h 6736 (5 * j + (k - 15)) (Or.inr (Or.inr (Or.inr (Or.inr (Or.inr (Or.inr (Or.inr (Or.inr (Or.inr (Or.inr (Or.inr (Or.inr (Or.inr (Or.inr (Or.inr (⟨hb, rfl, rfl⟩))))))))))))))))]
  · have hc : k = 0 ∨ k = 1 ∨ k = 2 ∨ k = 3 ∨ k = 4 ∨ k = 5 ∨ k = 6 ∨ k = 7 ∨ k = 8 ∨ k = 9 ∨ k = 10 ∨ k = 11 ∨ k = 12 ∨ k = 13 ∨ k = 14 := by omega
    rcases hc with rfl | rfl | rfl | rfl | rfl | rfl | rfl | rfl | rfl | rfl | rfl | rfl | rfl | rfl | rfl
    · rw [cv_0, cv_0]; rw [h 1 (if j = 8 then 7 else j - 9) (Or.inl ⟨rfl, rfl, by split <;> omega⟩)]
    · rw [cv_1, cv_1]; rw [cell_c (fun r i hc => h r i (Or.inr (Or.inl ⟨rfl, hc⟩)))]
    · rw [cv_2, cv_2]; rw [lcv_c (g := fd S j) (g' := fd S' j) (fun x hx => h 586 (9 * j + x) (Or.inr (Or.inr (Or.inl ⟨rfl, rfl, by omega, by omega⟩))))]
    · rw [cv_3, cv_3]; rw [h 538 j (Or.inr (Or.inr (Or.inr (Or.inl ⟨rfl, rfl, rfl⟩))))]
    · rw [cv_4, cv_4]; rw [h 6766 j (Or.inr (Or.inr (Or.inr (Or.inr (Or.inl ⟨rfl, rfl, rfl⟩)))))]
    · rw [cv_5, cv_5]; rw [h 526 j (Or.inr (Or.inr (Or.inr (Or.inr (Or.inr (Or.inl ⟨rfl, rfl, rfl⟩))))))]
    · rw [cv_6, cv_6]; rw [h 532 j (Or.inr (Or.inr (Or.inr (Or.inr (Or.inr (Or.inr (Or.inl ⟨rfl, rfl, rfl⟩)))))))]
    · rw [cv_7, cv_7]; rw [h 6730 j (Or.inr (Or.inr (Or.inr (Or.inr (Or.inr (Or.inr (Or.inr (Or.inl ⟨rfl, rfl, rfl⟩))))))))]
    · rw [cv_8, cv_8]
      by_cases j1 : j = 11
      · rw [if_pos j1, if_pos j1, h 6961 0 (Or.inr (Or.inr (Or.inr (Or.inr (Or.inr (Or.inr (Or.inr (Or.inr (Or.inl ⟨rfl, Or.inl ⟨j1, rfl, rfl⟩⟩)))))))))]
      · rw [if_neg j1, if_neg j1]
        by_cases j2 : j = 12
        · rw [if_pos j2, if_pos j2, h 1 8 (Or.inr (Or.inr (Or.inr (Or.inr (Or.inr (Or.inr (Or.inr (Or.inr (Or.inl ⟨rfl, Or.inr (Or.inl ⟨j2, rfl, rfl⟩)⟩)))))))))]
        · rw [if_neg j2, if_neg j2]
          by_cases j3 : j = 13
          · rw [if_pos j3, if_pos j3, h 1 12 (Or.inr (Or.inr (Or.inr (Or.inr (Or.inr (Or.inr (Or.inr (Or.inr (Or.inl ⟨rfl, Or.inr (Or.inr (Or.inl ⟨j3, rfl, rfl⟩))⟩)))))))))]
          · rw [if_neg j3, if_neg j3]
            rw [h 1 13 (Or.inr (Or.inr (Or.inr (Or.inr (Or.inr (Or.inr (Or.inr (Or.inr (Or.inl ⟨rfl, Or.inr (Or.inr (Or.inr ⟨j1, j2, j3, rfl, rfl⟩))⟩)))))))))]
    · rw [cv_9, cv_9]; unfold tv; rw [h 6962 (4 * j) (Or.inr (Or.inr (Or.inr (Or.inr (Or.inr (Or.inr (Or.inr (Or.inr (Or.inr (Or.inl ⟨rfl, rfl, by omega, by omega⟩)))))))))), h 6962 (4 * j + 1) (Or.inr (Or.inr (Or.inr (Or.inr (Or.inr (Or.inr (Or.inr (Or.inr (Or.inr (Or.inl ⟨rfl, rfl, by omega, by omega⟩)))))))))), h 6962 (4 * j + 2) (Or.inr (Or.inr (Or.inr (Or.inr (Or.inr (Or.inr (Or.inr (Or.inr (Or.inr (Or.inl ⟨rfl, rfl, by omega, by omega⟩)))))))))), h 6962 (4 * j + 3) (Or.inr (Or.inr (Or.inr (Or.inr (Or.inr (Or.inr (Or.inr (Or.inr (Or.inr (Or.inl ⟨rfl, rfl, by omega, by omega⟩))))))))))]
    · rw [cv_10, cv_10]; rw [h 6814 (3 * j) (Or.inr (Or.inr (Or.inr (Or.inr (Or.inr (Or.inr (Or.inr (Or.inr (Or.inr (Or.inr (Or.inl ⟨rfl, rfl, rfl⟩)))))))))))]
    · rw [cv_11, cv_11]; rw [h 6814 (3 * j + 1) (Or.inr (Or.inr (Or.inr (Or.inr (Or.inr (Or.inr (Or.inr (Or.inr (Or.inr (Or.inr (Or.inr (Or.inl ⟨rfl, rfl, rfl⟩))))))))))))]
    · rw [cv_12, cv_12]; rw [h 6814 (3 * j + 2) (Or.inr (Or.inr (Or.inr (Or.inr (Or.inr (Or.inr (Or.inr (Or.inr (Or.inr (Or.inr (Or.inr (Or.inr (Or.inl ⟨rfl, rfl, rfl⟩)))))))))))))]
    · rw [cv_13, cv_13]; rw [h 2752 j (Or.inr (Or.inr (Or.inr (Or.inr (Or.inr (Or.inr (Or.inr (Or.inr (Or.inr (Or.inr (Or.inr (Or.inr (Or.inr (Or.inl ⟨rfl, rfl, rfl⟩))))))))))))))]
    · rw [cv_14, cv_14]; rw [h 2746 j (Or.inr (Or.inr (Or.inr (Or.inr (Or.inr (Or.inr (Or.inr (Or.inr (Or.inr (Or.inr (Or.inr (Or.inr (Or.inr (Or.inr (Or.inl ⟨rfl, rfl, rfl⟩)))))))))))))))]
theorem xs_r {N : j_M} {t k j : Nat} {S : a_S} (hk : k < 20) (h1 : cl k ≤ j) (h2 : j < ch k) : XS N t S (t + k) j = cv S k j := by
  unfold XS
  rw [Nat.add_sub_cancel_left, if_pos ⟨by omega, by omega, h1, h2⟩]
theorem xs_r0 {N : j_M} {t j : Nat} {S : a_S} (h1 : 8 ≤ j) (h2 : j < 15) : XS N t S t j = cv S 0 j := xs_r (k := 0) (by omega) h1 h2
theorem xs_o {N : j_M} {t a : Nat} {S : a_S} (h : a < t ∨ t + 20 ≤ a) : XS N t S a = N a := by
  funext j
  unfold XS
  rw [if_neg (by omega)]
theorem xs_wo {N : j_M} {t a i : Nat} {v : Int32} {S : a_S} (h : a < t ∨ t + 20 ≤ a) : mw (XS N t S) a i v = XS (mw N a i v) t S := by
  funext x j
  unfold mw XS
  by_cases hx : t ≤ x ∧ x < t + 20 ∧ cl (x - t) ≤ j ∧ j < ch (x - t)
  · rw [if_pos hx, if_pos hx, if_neg (by omega)]
  · rw [if_neg hx, if_neg hx]
theorem xs_w {N : j_M} {t k i : Nat} {v : Int32} {S S' : a_S} (ht : t ≠ 0) (hk : k < 20) (h1 : cl k ≤ i) (h2 : i < ch k) (he : cv S' k i = v) (ho : ∀ k' j r x, k' < 20 → (k' ≠ k ∨ j ≠ i) → j < ch k' → cl k' ≤ j → cu k' j r x → S' r x = S r x) : mw (XS N t S) (t + k) i v = XS N t S' := by
  funext x j
  by_cases hx : x = t + k ∧ j = i
  · obtain ⟨rfl, rfl⟩ := hx
    rw [mw_at (by omega), xs_r hk h1 h2, he]
  · have e : mw (XS N t S) (t + k) i v x j = XS N t S x j := by
      unfold mw
      rw [if_neg (fun e => hx ⟨e.1, e.2.1⟩)]
    rw [e]
    unfold XS
    by_cases hr : t ≤ x ∧ x < t + 20 ∧ cl (x - t) ≤ j ∧ j < ch (x - t)
    · rw [if_pos hr, if_pos hr]
      exact (cv_c (by omega) (fun r y hc => ho (x - t) j r y (by omega) (by omega) hr.2.2.2 hr.2.2.1 hc)).symm
    · rw [if_neg hr, if_neg hr]
theorem sw_ne {S : a_S} {r i v x j : Nat} (h : ¬ (x = r ∧ j = i)) : sw S r i v x j = S x j := by
  unfold sw
  rw [if_neg h]
theorem xr_4 {N : j_M} {t j : Nat} {S : a_S} (h : j < 48) : XS N t S (t + 4) j = nI (S 6766 j) := xs_r (k := 4) (by omega) (Nat.zero_le _) h
theorem xw_4 {N : j_M} {t i v : Nat} {S : a_S} (ht : t ≠ 0) (h : i < 48) : mw (XS N t S) (t + 4) i (nI v) = XS N t (sw S 6766 i v) :=
  xs_w (k := 4) ht (by omega) (Nat.zero_le _) h (by rw [cv_4, sw_at]) (fun k' j r x hk hn _ _ hc => sw_ne (by rintro ⟨rfl, rfl⟩; simp only [cu, cu1, Nat.reduceEqDiff, false_and, and_false, or_false, false_or, true_and] at hc; omega))
theorem xr_5 {N : j_M} {t j : Nat} {S : a_S} (h : j < 6) : XS N t S (t + 5) j = nI (S 526 j) := xs_r (k := 5) (by omega) (Nat.zero_le _) h
theorem xw_5 {N : j_M} {t i v : Nat} {S : a_S} (ht : t ≠ 0) (h : i < 6) : mw (XS N t S) (t + 5) i (nI v) = XS N t (sw S 526 i v) :=
  xs_w (k := 5) ht (by omega) (Nat.zero_le _) h (by rw [cv_5, sw_at]) (fun k' j r x hk hn _ _ hc => sw_ne (by rintro ⟨rfl, rfl⟩; simp only [cu, cu1, Nat.reduceEqDiff, false_and, and_false, or_false, false_or, true_and] at hc; omega))
theorem xr_6 {N : j_M} {t j : Nat} {S : a_S} (h : j < 6) : XS N t S (t + 6) j = nI (S 532 j) := xs_r (k := 6) (by omega) (Nat.zero_le _) h
theorem xw_6 {N : j_M} {t i v : Nat} {S : a_S} (ht : t ≠ 0) (h : i < 6) : mw (XS N t S) (t + 6) i (nI v) = XS N t (sw S 532 i v) :=
  xs_w (k := 6) ht (by omega) (Nat.zero_le _) h (by rw [cv_6, sw_at]) (fun k' j r x hk hn _ _ hc => sw_ne (by rintro ⟨rfl, rfl⟩; simp only [cu, cu1, Nat.reduceEqDiff, false_and, and_false, or_false, false_or, true_and] at hc; omega))
theorem xr_7 {N : j_M} {t j : Nat} {S : a_S} (h : j < 6) : XS N t S (t + 7) j = nI (S 6730 j) := xs_r (k := 7) (by omega) (Nat.zero_le _) h
theorem xw_7 {N : j_M} {t i v : Nat} {S : a_S} (ht : t ≠ 0) (h : i < 6) : mw (XS N t S) (t + 7) i (nI v) = XS N t (sw S 6730 i v) :=
  xs_w (k := 7) ht (by omega) (Nat.zero_le _) h (by rw [cv_7, sw_at]) (fun k' j r x hk hn _ _ hc => sw_ne (by rintro ⟨rfl, rfl⟩; simp only [cu, cu1, Nat.reduceEqDiff, false_and, and_false, or_false, false_or, true_and] at hc; omega))
theorem xr_13 {N : j_M} {t j : Nat} {S : a_S} (h : j < 360) : XS N t S (t + 13) j = nI (S 2752 j) := xs_r (k := 13) (by omega) (Nat.zero_le _) h
theorem xw_13 {N : j_M} {t i v : Nat} {S : a_S} (ht : t ≠ 0) (h : i < 360) : mw (XS N t S) (t + 13) i (nI v) = XS N t (sw S 2752 i v) :=
  xs_w (k := 13) ht (by omega) (Nat.zero_le _) h (by rw [cv_13, sw_at]) (fun k' j r x hk hn _ _ hc => sw_ne (by rintro ⟨rfl, rfl⟩; simp only [cu, cu1, Nat.reduceEqDiff, false_and, and_false, or_false, false_or, true_and] at hc; omega))
theorem xr_14 {N : j_M} {t j : Nat} {S : a_S} (h : j < 6) : XS N t S (t + 14) j = nI (S 2746 j) := xs_r (k := 14) (by omega) (Nat.zero_le _) h
theorem xw_14 {N : j_M} {t i v : Nat} {S : a_S} (ht : t ≠ 0) (h : i < 6) : mw (XS N t S) (t + 14) i (nI v) = XS N t (sw S 2746 i v) :=
  xs_w (k := 14) ht (by omega) (Nat.zero_le _) h (by rw [cv_14, sw_at]) (fun k' j r x hk hn _ _ hc => sw_ne (by rintro ⟨rfl, rfl⟩; simp only [cu, cu1, Nat.reduceEqDiff, false_and, and_false, or_false, false_or, true_and] at hc; omega))
theorem xr_3 {N : j_M} {t j : Nat} {S : a_S} (h : j < 48) : XS N t S (t + 3) j = oI (S 538 j) := xs_r (k := 3) (by omega) (Nat.zero_le _) h
theorem xw_3 {N : j_M} {t i v : Nat} {S : a_S} (ht : t ≠ 0) (h : i < 48) : mw (XS N t S) (t + 3) i (nI v) = XS N t (sw S 538 i (v + 1)) :=
  xs_w (k := 3) ht (by omega) (Nat.zero_le _) h (by rw [cv_3, sw_at]; rfl) (fun k' j r x hk hn _ _ hc => sw_ne (by rintro ⟨rfl, rfl⟩; simp only [cu, cu1, Nat.reduceEqDiff, false_and, and_false, or_false, false_or, true_and] at hc; omega))
theorem xm_3 {N : j_M} {t i : Nat} {S : a_S} (ht : t ≠ 0) (h : i < 48) : mw (XS N t S) (t + 3) i (-1) = XS N t (sw S 538 i 0) :=
  xs_w (k := 3) ht (by omega) (Nat.zero_le _) h (by rw [cv_3, sw_at]; rfl) (fun k' j r x hk hn _ _ hc => sw_ne (by rintro ⟨rfl, rfl⟩; simp only [cu, cu1, Nat.reduceEqDiff, false_and, and_false, or_false, false_or, true_and] at hc; omega))
theorem xr_10 {N : j_M} {t j : Nat} {S : a_S} (h : j < 49) : XS N t S (t + 10) j = nI (S 6814 (3 * j)) := xs_r (k := 10) (by omega) (Nat.zero_le _) h
theorem xw_10 {N : j_M} {t i v : Nat} {S : a_S} (ht : t ≠ 0) (h : i < 49) : mw (XS N t S) (t + 10) i (nI v) = XS N t (sw S 6814 (3 * i) v) :=
  xs_w (k := 10) ht (by omega) (Nat.zero_le _) h (by rw [cv_10, sw_at]) (fun k' j r x hk hn _ _ hc => sw_ne (by rintro ⟨rfl, rfl⟩; simp only [cu, cu1, Nat.reduceEqDiff, false_and, and_false, or_false, false_or, true_and] at hc; omega))
theorem xr_11 {N : j_M} {t j : Nat} {S : a_S} (h : j < 49) : XS N t S (t + 11) j = nI (S 6814 (3 * j + 1)) := xs_r (k := 11) (by omega) (Nat.zero_le _) h
theorem xw_11 {N : j_M} {t i v : Nat} {S : a_S} (ht : t ≠ 0) (h : i < 49) : mw (XS N t S) (t + 11) i (nI v) = XS N t (sw S 6814 (3 * i + 1) v) :=
  xs_w (k := 11) ht (by omega) (Nat.zero_le _) h (by rw [cv_11, sw_at]) (fun k' j r x hk hn _ _ hc => sw_ne (by rintro ⟨rfl, rfl⟩; simp only [cu, cu1, Nat.reduceEqDiff, false_and, and_false, or_false, false_or, true_and] at hc; omega))
theorem xr_12 {N : j_M} {t j : Nat} {S : a_S} (h : j < 49) : XS N t S (t + 12) j = nI (S 6814 (3 * j + 2)) := xs_r (k := 12) (by omega) (Nat.zero_le _) h
theorem xw_12 {N : j_M} {t i v : Nat} {S : a_S} (ht : t ≠ 0) (h : i < 49) : mw (XS N t S) (t + 12) i (nI v) = XS N t (sw S 6814 (3 * i + 2) v) :=
  xs_w (k := 12) ht (by omega) (Nat.zero_le _) h (by rw [cv_12, sw_at]) (fun k' j r x hk hn _ _ hc => sw_ne (by rintro ⟨rfl, rfl⟩; simp only [cu, cu1, Nat.reduceEqDiff, false_and, and_false, or_false, false_or, true_and] at hc; omega))
theorem xr_15 {N : j_M} {t j : Nat} {S : a_S} (h : j < 6) : XS N t S (t + 15) j = nI (S 6736 (5 * j)) := xs_r (k := 15) (by omega) (Nat.zero_le _) h
theorem xw_15 {N : j_M} {t i v : Nat} {S : a_S} (ht : t ≠ 0) (h : i < 6) : mw (XS N t S) (t + 15) i (nI v) = XS N t (sw S 6736 (5 * i) v) :=
  xs_w (k := 15) ht (by omega) (Nat.zero_le _) h (by rw [cv_15]; first | rw [sw_at] | rw [Nat.add_zero, sw_at]) (fun k' j r x hk hn _ _ hc => sw_ne (by rintro ⟨rfl, rfl⟩; simp only [cu, cu1, Nat.reduceEqDiff, false_and, and_false, or_false, false_or, true_and] at hc; omega))
theorem xr_16 {N : j_M} {t j : Nat} {S : a_S} (h : j < 6) : XS N t S (t + 16) j = nI (S 6736 (5 * j + 1)) := xs_r (k := 16) (by omega) (Nat.zero_le _) h
theorem xw_16 {N : j_M} {t i v : Nat} {S : a_S} (ht : t ≠ 0) (h : i < 6) : mw (XS N t S) (t + 16) i (nI v) = XS N t (sw S 6736 (5 * i + 1) v) :=
  xs_w (k := 16) ht (by omega) (Nat.zero_le _) h (by rw [cv_16]; first | rw [sw_at] | rw [Nat.add_zero, sw_at]) (fun k' j r x hk hn _ _ hc => sw_ne (by rintro ⟨rfl, rfl⟩; simp only [cu, cu1, Nat.reduceEqDiff, false_and, and_false, or_false, false_or, true_and] at hc; omega))
theorem xr_17 {N : j_M} {t j : Nat} {S : a_S} (h : j < 6) : XS N t S (t + 17) j = nI (S 6736 (5 * j + 2)) := xs_r (k := 17) (by omega) (Nat.zero_le _) h
theorem xw_17 {N : j_M} {t i v : Nat} {S : a_S} (ht : t ≠ 0) (h : i < 6) : mw (XS N t S) (t + 17) i (nI v) = XS N t (sw S 6736 (5 * i + 2) v) :=
  xs_w (k := 17) ht (by omega) (Nat.zero_le _) h (by rw [cv_17]; first | rw [sw_at] | rw [Nat.add_zero, sw_at]) (fun k' j r x hk hn _ _ hc => sw_ne (by rintro ⟨rfl, rfl⟩; simp only [cu, cu1, Nat.reduceEqDiff, false_and, and_false, or_false, false_or, true_and] at hc; omega))
theorem xr_18 {N : j_M} {t j : Nat} {S : a_S} (h : j < 6) : XS N t S (t + 18) j = nI (S 6736 (5 * j + 3)) := xs_r (k := 18) (by omega) (Nat.zero_le _) h
theorem xw_18 {N : j_M} {t i v : Nat} {S : a_S} (ht : t ≠ 0) (h : i < 6) : mw (XS N t S) (t + 18) i (nI v) = XS N t (sw S 6736 (5 * i + 3) v) :=
  xs_w (k := 18) ht (by omega) (Nat.zero_le _) h (by rw [cv_18]; first | rw [sw_at] | rw [Nat.add_zero, sw_at]) (fun k' j r x hk hn _ _ hc => sw_ne (by rintro ⟨rfl, rfl⟩; simp only [cu, cu1, Nat.reduceEqDiff, false_and, and_false, or_false, false_or, true_and] at hc; omega))
theorem xr_19 {N : j_M} {t j : Nat} {S : a_S} (h : j < 6) : XS N t S (t + 19) j = nI (S 6736 (5 * j + 4)) := xs_r (k := 19) (by omega) (Nat.zero_le _) h
theorem xw_19 {N : j_M} {t i v : Nat} {S : a_S} (ht : t ≠ 0) (h : i < 6) : mw (XS N t S) (t + 19) i (nI v) = XS N t (sw S 6736 (5 * i + 4) v) :=
  xs_w (k := 19) ht (by omega) (Nat.zero_le _) h (by rw [cv_19]; first | rw [sw_at] | rw [Nat.add_zero, sw_at]) (fun k' j r x hk hn _ _ hc => sw_ne (by rintro ⟨rfl, rfl⟩; simp only [cu, cu1, Nat.reduceEqDiff, false_and, and_false, or_false, false_or, true_and] at hc; omega))
theorem xr_0_8 {N : j_M} {t : Nat} {S : a_S} : XS N t S t 8 = nI (S 1 7) := xs_r0 (by omega) (by omega)
theorem xw_0_8 {N : j_M} {t v : Nat} {S : a_S} (ht : t ≠ 0) : mw (XS N t S) t 8 (nI v) = XS N t (sw S 1 7 v) :=
  xs_w (k := 0) ht (by omega) (show 8 ≤ 8 by omega) (show 8 < 15 by omega) (show nI (sw S 1 7 v 1 7) = nI v by rw [sw_at]) (fun k' j r x hk hn hh hl hc => sw_ne (by
    rintro ⟨rfl, rfl⟩
    have hl2 : k' = 0 → 8 ≤ j := fun h0 => by rw [h0] at hl; exact hl
    have hl4 : k' = 0 → j < 15 := fun h0 => by rw [h0] at hh; exact hh
    simp only [cu, cu1, Nat.reduceEqDiff, false_and, and_false, or_false, false_or, true_and] at hc; omega))
theorem xr_0_9 {N : j_M} {t : Nat} {S : a_S} : XS N t S t 9 = nI (S 1 0) := xs_r0 (by omega) (by omega)
theorem xw_0_9 {N : j_M} {t v : Nat} {S : a_S} (ht : t ≠ 0) : mw (XS N t S) t 9 (nI v) = XS N t (sw S 1 0 v) :=
  xs_w (k := 0) ht (by omega) (show 8 ≤ 9 by omega) (show 9 < 15 by omega) (show nI (sw S 1 0 v 1 0) = nI v by rw [sw_at]) (fun k' j r x hk hn hh hl hc => sw_ne (by
    rintro ⟨rfl, rfl⟩
    have hl2 : k' = 0 → 8 ≤ j := fun h0 => by rw [h0] at hl; exact hl
    have hl4 : k' = 0 → j < 15 := fun h0 => by rw [h0] at hh; exact hh
    simp only [cu, cu1, Nat.reduceEqDiff, false_and, and_false, or_false, false_or, true_and] at hc; omega))
theorem xr_0_10 {N : j_M} {t : Nat} {S : a_S} : XS N t S t 10 = nI (S 1 1) := xs_r0 (by omega) (by omega)
theorem xw_0_10 {N : j_M} {t v : Nat} {S : a_S} (ht : t ≠ 0) : mw (XS N t S) t 10 (nI v) = XS N t (sw S 1 1 v) :=
  xs_w (k := 0) ht (by omega) (show 8 ≤ 10 by omega) (show 10 < 15 by omega) (show nI (sw S 1 1 v 1 1) = nI v by rw [sw_at]) (fun k' j r x hk hn hh hl hc => sw_ne (by
    rintro ⟨rfl, rfl⟩
    have hl2 : k' = 0 → 8 ≤ j := fun h0 => by rw [h0] at hl; exact hl
    have hl4 : k' = 0 → j < 15 := fun h0 => by rw [h0] at hh; exact hh
    simp only [cu, cu1, Nat.reduceEqDiff, false_and, and_false, or_false, false_or, true_and] at hc; omega))
theorem xr_0_11 {N : j_M} {t : Nat} {S : a_S} : XS N t S t 11 = nI (S 1 2) := xs_r0 (by omega) (by omega)
theorem xw_0_11 {N : j_M} {t v : Nat} {S : a_S} (ht : t ≠ 0) : mw (XS N t S) t 11 (nI v) = XS N t (sw S 1 2 v) :=
  xs_w (k := 0) ht (by omega) (show 8 ≤ 11 by omega) (show 11 < 15 by omega) (show nI (sw S 1 2 v 1 2) = nI v by rw [sw_at]) (fun k' j r x hk hn hh hl hc => sw_ne (by
    rintro ⟨rfl, rfl⟩
    have hl2 : k' = 0 → 8 ≤ j := fun h0 => by rw [h0] at hl; exact hl
    have hl4 : k' = 0 → j < 15 := fun h0 => by rw [h0] at hh; exact hh
    simp only [cu, cu1, Nat.reduceEqDiff, false_and, and_false, or_false, false_or, true_and] at hc; omega))
theorem xr_0_12 {N : j_M} {t : Nat} {S : a_S} : XS N t S t 12 = nI (S 1 3) := xs_r0 (by omega) (by omega)
theorem xw_0_12 {N : j_M} {t v : Nat} {S : a_S} (ht : t ≠ 0) : mw (XS N t S) t 12 (nI v) = XS N t (sw S 1 3 v) :=
  xs_w (k := 0) ht (by omega) (show 8 ≤ 12 by omega) (show 12 < 15 by omega) (show nI (sw S 1 3 v 1 3) = nI v by rw [sw_at]) (fun k' j r x hk hn hh hl hc => sw_ne (by
    rintro ⟨rfl, rfl⟩
    have hl2 : k' = 0 → 8 ≤ j := fun h0 => by rw [h0] at hl; exact hl
    have hl4 : k' = 0 → j < 15 := fun h0 => by rw [h0] at hh; exact hh
    simp only [cu, cu1, Nat.reduceEqDiff, false_and, and_false, or_false, false_or, true_and] at hc; omega))
theorem xr_0_13 {N : j_M} {t : Nat} {S : a_S} : XS N t S t 13 = nI (S 1 4) := xs_r0 (by omega) (by omega)
theorem xw_0_13 {N : j_M} {t v : Nat} {S : a_S} (ht : t ≠ 0) : mw (XS N t S) t 13 (nI v) = XS N t (sw S 1 4 v) :=
  xs_w (k := 0) ht (by omega) (show 8 ≤ 13 by omega) (show 13 < 15 by omega) (show nI (sw S 1 4 v 1 4) = nI v by rw [sw_at]) (fun k' j r x hk hn hh hl hc => sw_ne (by
    rintro ⟨rfl, rfl⟩
    have hl2 : k' = 0 → 8 ≤ j := fun h0 => by rw [h0] at hl; exact hl
    have hl4 : k' = 0 → j < 15 := fun h0 => by rw [h0] at hh; exact hh
    simp only [cu, cu1, Nat.reduceEqDiff, false_and, and_false, or_false, false_or, true_and] at hc; omega))
theorem xr_0_14 {N : j_M} {t : Nat} {S : a_S} : XS N t S t 14 = nI (S 1 5) := xs_r0 (by omega) (by omega)
theorem xw_0_14 {N : j_M} {t v : Nat} {S : a_S} (ht : t ≠ 0) : mw (XS N t S) t 14 (nI v) = XS N t (sw S 1 5 v) :=
  xs_w (k := 0) ht (by omega) (show 8 ≤ 14 by omega) (show 14 < 15 by omega) (show nI (sw S 1 5 v 1 5) = nI v by rw [sw_at]) (fun k' j r x hk hn hh hl hc => sw_ne (by
    rintro ⟨rfl, rfl⟩
    have hl2 : k' = 0 → 8 ≤ j := fun h0 => by rw [h0] at hl; exact hl
    have hl4 : k' = 0 → j < 15 := fun h0 => by rw [h0] at hh; exact hh
    simp only [cu, cu1, Nat.reduceEqDiff, false_and, and_false, or_false, false_or, true_and] at hc; omega))
theorem xr_8_11 {N : j_M} {t : Nat} {S : a_S} : XS N t S (t + 8) 11 = nI (S 6961 0) := xs_r (k := 8) (by omega) (show 11 ≤ 11 by omega) (show 11 < 15 by omega)
theorem xw_8_11 {N : j_M} {t v : Nat} {S : a_S} (ht : t ≠ 0) : mw (XS N t S) (t + 8) 11 (nI v) = XS N t (sw S 6961 0 v) :=
  xs_w (k := 8) ht (by omega) (show 11 ≤ 11 by omega) (show 11 < 15 by omega) (show nI (sw S 6961 0 v 6961 0) = nI v by rw [sw_at]) (fun k' j r x hk hn hh hl hc => sw_ne (by
    rintro ⟨rfl, rfl⟩
    have hl2 : k' = 0 → 8 ≤ j := fun h0 => by rw [h0] at hl; exact hl
    have hl4 : k' = 0 → j < 15 := fun h0 => by rw [h0] at hh; exact hh
    have hl3 : k' = 8 → 11 ≤ j ∧ j < 15 := fun h0 => by rw [h0] at hl hh; exact ⟨hl, hh⟩
    simp only [cu, cu1, Nat.reduceEqDiff, false_and, and_false, or_false, false_or, true_and] at hc; omega))
theorem xr_8_12 {N : j_M} {t : Nat} {S : a_S} : XS N t S (t + 8) 12 = nI (S 1 8) := xs_r (k := 8) (by omega) (show 11 ≤ 12 by omega) (show 12 < 15 by omega)
theorem xw_8_12 {N : j_M} {t v : Nat} {S : a_S} (ht : t ≠ 0) : mw (XS N t S) (t + 8) 12 (nI v) = XS N t (sw S 1 8 v) :=
  xs_w (k := 8) ht (by omega) (show 11 ≤ 12 by omega) (show 12 < 15 by omega) (show nI (sw S 1 8 v 1 8) = nI v by rw [sw_at]) (fun k' j r x hk hn hh hl hc => sw_ne (by
    rintro ⟨rfl, rfl⟩
    have hl2 : k' = 0 → 8 ≤ j := fun h0 => by rw [h0] at hl; exact hl
    have hl4 : k' = 0 → j < 15 := fun h0 => by rw [h0] at hh; exact hh
    have hl3 : k' = 8 → 11 ≤ j ∧ j < 15 := fun h0 => by rw [h0] at hl hh; exact ⟨hl, hh⟩
    simp only [cu, cu1, Nat.reduceEqDiff, false_and, and_false, or_false, false_or, true_and] at hc; omega))
theorem xr_8_13 {N : j_M} {t : Nat} {S : a_S} : XS N t S (t + 8) 13 = nI (S 1 12) := xs_r (k := 8) (by omega) (show 11 ≤ 13 by omega) (show 13 < 15 by omega)
theorem xw_8_13 {N : j_M} {t v : Nat} {S : a_S} (ht : t ≠ 0) : mw (XS N t S) (t + 8) 13 (nI v) = XS N t (sw S 1 12 v) :=
  xs_w (k := 8) ht (by omega) (show 11 ≤ 13 by omega) (show 13 < 15 by omega) (show nI (sw S 1 12 v 1 12) = nI v by rw [sw_at]) (fun k' j r x hk hn hh hl hc => sw_ne (by
    rintro ⟨rfl, rfl⟩
    have hl2 : k' = 0 → 8 ≤ j := fun h0 => by rw [h0] at hl; exact hl
    have hl4 : k' = 0 → j < 15 := fun h0 => by rw [h0] at hh; exact hh
    have hl3 : k' = 8 → 11 ≤ j ∧ j < 15 := fun h0 => by rw [h0] at hl hh; exact ⟨hl, hh⟩
    simp only [cu, cu1, Nat.reduceEqDiff, false_and, and_false, or_false, false_or, true_and] at hc; omega))
theorem xr_8_14 {N : j_M} {t : Nat} {S : a_S} : XS N t S (t + 8) 14 = nI (S 1 13) := xs_r (k := 8) (by omega) (show 11 ≤ 14 by omega) (show 14 < 15 by omega)
theorem xw_8_14 {N : j_M} {t v : Nat} {S : a_S} (ht : t ≠ 0) : mw (XS N t S) (t + 8) 14 (nI v) = XS N t (sw S 1 13 v) :=
  xs_w (k := 8) ht (by omega) (show 11 ≤ 14 by omega) (show 14 < 15 by omega) (show nI (sw S 1 13 v 1 13) = nI v by rw [sw_at]) (fun k' j r x hk hn hh hl hc => sw_ne (by
    rintro ⟨rfl, rfl⟩
    have hl2 : k' = 0 → 8 ≤ j := fun h0 => by rw [h0] at hl; exact hl
    have hl4 : k' = 0 → j < 15 := fun h0 => by rw [h0] at hh; exact hh
    have hl3 : k' = 8 → 11 ≤ j ∧ j < 15 := fun h0 => by rw [h0] at hl hh; exact ⟨hl, hh⟩
    simp only [cu, cu1, Nat.reduceEqDiff, false_and, and_false, or_false, false_or, true_and] at hc; omega))
/-- where a node's cells begin -/
def bk (n : Nat) : Nat := (n + 1) % 7 * 16
theorem bk_le (n : Nat) : bk n ≤ 96 := by unfold bk; omega
theorem x_blk {n : Nat} {M : j_M} (h : n < 7) : xX1_blockOf (nI n) M = some (nI (bk n), M) := by
  unfold xX1_blockOf bk
  simp (disch := omega) only [e_gn, e_add, e_rem, e_mul]
theorem xr_h {N : j_M} {t n l : Nat} {S : a_S} (hn : n < 7) (hl : l < 8) : XS N t S (t + 1) (bk n + l) = nI (hv S (8 * n + l)) := by
  have hb := bk_le n
  rw [xs_r (k := 1) (by omega) (Nat.zero_le _) (show bk n + l < 112 by omega), cv_1]
  unfold cell
  have e1 : (bk n + l) % 16 = l := by unfold bk; omega
  have e2 : ((bk n + l) / 16 + 6) % 7 = n := by unfold bk; omega
  rw [e1, e2, if_pos hl]
theorem xr_e {N : j_M} {t n c : Nat} {S : a_S} (hn : n < 7) (hc : c < 6) : XS N t S (t + 1) (bk n + (8 + c)) = nI (ev S (6 * n + c)) := by
  have hb := bk_le n
  rw [xs_r (k := 1) (by omega) (Nat.zero_le _) (show bk n + (8 + c) < 112 by omega), cv_1]
  unfold cell
  have e1 : (bk n + (8 + c)) % 16 = 8 + c := by unfold bk; omega
  have e2 : ((bk n + (8 + c)) / 16 + 6) % 7 = n := by unfold bk; omega
  rw [e1, e2, if_neg (by omega), if_pos (by omega), Nat.add_sub_cancel_left]
theorem xr_u {N : j_M} {t n : Nat} {S : a_S} (hn : n < 6) : XS N t S (t + 1) (bk n + 14) = nI (uo S n) := by
  have hb := bk_le n
  rw [xs_r (k := 1) (by omega) (Nat.zero_le _) (show bk n + 14 < 112 by omega), cv_1]
  unfold cell
  have e1 : (bk n + 14) % 16 = 14 := by unfold bk; omega
  have e2 : (bk n + 14) / 16 = n + 1 := by unfold bk; omega
  rw [e1, e2, if_neg (by omega), if_neg (by omega), if_neg (by omega), if_pos rfl, Nat.add_sub_cancel]
theorem xr_m {N : j_M} {t n : Nat} {S : a_S} (hn : n < 6) : XS N t S (t + 1) (bk n + 15) = nI (msv S n) := by
  have hb := bk_le n
  rw [xs_r (k := 1) (by omega) (Nat.zero_le _) (show bk n + 15 < 112 by omega), cv_1]
  unfold cell
  have e1 : (bk n + 15) % 16 = 15 := by unfold bk; omega
  have e2 : (bk n + 15) / 16 = n + 1 := by unfold bk; omega
  rw [e1, e2, if_neg (by omega), if_neg (by omega), if_neg (by omega), if_neg (by omega), Nat.add_sub_cancel]
theorem xr_m6 {N : j_M} {t : Nat} {S : a_S} : XS N t S (t + 1) (bk 6 + 15) = nI 0 := by
  rw [xs_r (k := 1) (by omega) (Nat.zero_le _) (show bk 6 + 15 < 112 by decide), cv_1]
  rfl
def sh4 (S : a_S) (i c o v d : Nat) : a_S := sw (sw (sw (sw S 14 i c) 70 i o) 126 i v) 182 i d
theorem sh4_ne {S : a_S} {i c o v d r x : Nat} (h : ¬ ((r = 14 ∨ r = 70 ∨ r = 126 ∨ r = 182) ∧ x = i)) : sh4 S i c o v d r x = S r x := by
  unfold sh4
  rw [sw_ne (by omega), sw_ne (by omega), sw_ne (by omega), sw_ne (by omega)]
theorem xw_h {N : j_M} {t n l c o v d : Nat} {S : a_S} (ht : t ≠ 0) (hn : n < 7) (hl : l < 8) : mw (XS N t S) (t + 1) (bk n + l) (nI (hvv c o v d)) = XS N t (sh4 S (8 * n + l) c o v d) := by
  have hb := bk_le n
  refine xs_w (k := 1) ht (by omega) (Nat.zero_le _) (show bk n + l < 112 by omega) ?_ (fun k' j r x hk hj hh hl hc => sh4_ne (by
    intro hx
    have hh2 : k' = 1 → j < 112 := fun h0 => by rw [h0] at hh; exact hh
    unfold bk at hj
    unfold cu cu1 at hc; omega))
  rw [cv_1]
  unfold cell
  have e1 : (bk n + l) % 16 = l := by unfold bk; omega
  have e2 : ((bk n + l) / 16 + 6) % 7 = n := by unfold bk; omega
  rw [e1, e2, if_pos hl]
  unfold hv sh4
  rw [sw_at, sw_r (by omega), sw_r (by omega), sw_r (by omega), sw_at, sw_r (by omega), sw_r (by omega), sw_at, sw_r (by omega), sw_at]
def se5 (S : a_S) (i a m w l s : Nat) : a_S := sw (sw (sw (sw (sw S 316 i s) 358 i a) 400 i l) 442 i w) 484 i m
theorem se5_ne {S : a_S} {i a m w l s r x : Nat} (h : ¬ ((r = 316 ∨ r = 358 ∨ r = 400 ∨ r = 442 ∨ r = 484) ∧ x = i)) : se5 S i a m w l s r x = S r x := by
  unfold se5
  rw [sw_ne (by omega), sw_ne (by omega), sw_ne (by omega), sw_ne (by omega), sw_ne (by omega)]
theorem xw_e {N : j_M} {t n c a m w l s : Nat} {S : a_S} (ht : t ≠ 0) (hn : n < 7) (hc : c < 6) : mw (XS N t S) (t + 1) (bk n + (8 + c)) (nI (evv a m w l s)) = XS N t (se5 S (6 * n + c) a m w l s) := by
  have hb := bk_le n
  refine xs_w (k := 1) ht (by omega) (Nat.zero_le _) (show bk n + (8 + c) < 112 by omega) ?_ (fun k' j r x hk hj hh hl hc => se5_ne (by
    intro hx
    have hh2 : k' = 1 → j < 112 := fun h0 => by rw [h0] at hh; exact hh
    unfold bk at hj
    unfold cu cu1 at hc; omega))
  rw [cv_1]
  unfold cell
  have e1 : (bk n + (8 + c)) % 16 = 8 + c := by unfold bk; omega
  have e2 : ((bk n + (8 + c)) / 16 + 6) % 7 = n := by unfold bk; omega
  rw [e1, e2, if_neg (by omega), if_pos (by omega), Nat.add_sub_cancel_left]
  unfold ev se5
  simp (disch := omega) only [sw_r, sw_at]
theorem xw_u {N : j_M} {t n : Nat} {v : Int32} {S S' : a_S} (ht : t ≠ 0) (hn : n < 6) (hv : v = nI (uo S' n)) (h : ∀ r x, ¬ ((r = 238 ∧ x = n) ∨ (r = 244 ∧ 8 * n ≤ x ∧ x < 8 * n + 8)) → S' r x = S r x) : mw (XS N t S) (t + 1) (bk n + 14) v = XS N t S' := by
  have hb := bk_le n
  refine xs_w (k := 1) ht (by omega) (Nat.zero_le _) (show bk n + 14 < 112 by omega) ?_ (fun k' j r x hk hj hh hl hc => h r x (by
    intro hx
    have hh2 : k' = 1 → j < 112 := fun h0 => by rw [h0] at hh; exact hh
    unfold bk at hj
    unfold cu cu1 at hc; omega))
  rw [cv_1, hv]
  unfold cell
  have e1 : (bk n + 14) % 16 = 14 := by unfold bk; omega
  have e2 : (bk n + 14) / 16 = n + 1 := by unfold bk; omega
  rw [e1, e2, if_neg (by omega), if_neg (by omega), if_neg (by omega), if_pos rfl, Nat.add_sub_cancel]
theorem xw_m {N : j_M} {t n : Nat} {v : Int32} {S S' : a_S} (ht : t ≠ 0) (hn : n < 6) (hv : v = nI (msv S' n)) (h : ∀ r x, ¬ ((r = 292 ∨ r = 298 ∨ r = 304 ∨ r = 310) ∧ x = n) → S' r x = S r x) : mw (XS N t S) (t + 1) (bk n + 15) v = XS N t S' := by
  have hb := bk_le n
  refine xs_w (k := 1) ht (by omega) (Nat.zero_le _) (show bk n + 15 < 112 by omega) ?_ (fun k' j r x hk hj hh hl hc => h r x (by
    intro hx
    have hh2 : k' = 1 → j < 112 := fun h0 => by rw [h0] at hh; exact hh
    unfold bk at hj
    unfold cu cu1 at hc; omega))
  rw [cv_1, hv]
  unfold cell
  have e1 : (bk n + 15) % 16 = 15 := by unfold bk; omega
  have e2 : (bk n + 15) / 16 = n + 1 := by unfold bk; omega
  rw [e1, e2, if_neg (by omega), if_neg (by omega), if_neg (by omega), if_neg (by omega), Nat.add_sub_cancel]
theorem xr_2 {N : j_M} {t j : Nat} {S : a_S} (h : j < 240) : XS N t S (t + 2) j = nI (lcv (fd S j)) := xs_r (k := 2) (by omega) (Nat.zero_le _) h
def sm9 (S : a_S) (i f t k l mn ow wi nt wh : Nat) : a_S := fun r j => if r = 586 ∧ 9 * i ≤ j ∧ j < 9 * i + 9 then fl9 f t k l mn ow wi nt wh (j - 9 * i) else S r j
theorem xw_2 {N : j_M} {t i : Nat} {v : Int32} {S : a_S} {f to k l mn ow wi nt wh : Nat} (ht : t ≠ 0) (h : i < 240) (hv : v = nI (lcv (fl9 f to k l mn ow wi nt wh))) : mw (XS N t S) (t + 2) i v = XS N t (sm9 S i f to k l mn ow wi nt wh) := by
  refine xs_w (k := 2) ht (by omega) (Nat.zero_le _) h ?_ (fun k' j r x hk hj hh hl hc => ?_)
  · rw [cv_2, hv, lcv_c (g := fl9 f to k l mn ow wi nt wh)]
    intro j hj
    unfold fd sm9
    rw [if_pos (by omega), Nat.add_sub_cancel_left]
  · unfold sm9
    rw [if_neg (by intro hx; unfold cu cu1 at hc; omega)]
theorem xr_9 {N : j_M} {t j : Nat} {S : a_S} (h : j < 100) : XS N t S (t + 9) j = nI (tv S j) := xs_r (k := 9) (by omega) (Nat.zero_le _) h
theorem xw_9 {N : j_M} {t i a b c d : Nat} {v : Int32} {S : a_S} (ht : t ≠ 0) (h : i < 100) (hv : v = nI (512 * a + 64 * b + 8 * c + d)) : mw (XS N t S) (t + 9) i v = XS N t (sw (sw (sw (sw S 6962 (4 * i) a) 6962 (4 * i + 1) b) 6962 (4 * i + 2) c) 6962 (4 * i + 3) d) := by
  refine xs_w (k := 9) ht (by omega) (Nat.zero_le _) h ?_ (fun k' j r x hk hj hh hl hc => ?_)
  · rw [cv_9, hv]
    unfold tv
    simp (disch := omega) only [sw_i, sw_at]
  · have hx : ¬ (r = 6962 ∧ 4 * i ≤ x ∧ x < 4 * i + 4) := by intro hx; unfold cu cu1 at hc; omega
    rw [sw_ne (by omega), sw_ne (by omega), sw_ne (by omega), sw_ne (by omega)]
