/-! ===== memory as the reference sees it: its row w is W's, all else N ===== -/
def RM (N W : j_M) : j_M := fun x => if x = 201 then fl W else N x
theorem rm_o {N W : j_M} {a : Nat} (h : a ≠ 201) : RM N W a = N a := by unfold RM; rw [if_neg h]
theorem rm_w {N W : j_M} : RM N W 201 = fl W := rfl
theorem rm_wo {N W : j_M} {a i : Nat} {v : Int32} (h : a ≠ 201) : mw (RM N W) a i v = RM (mw N a i v) W := by
  funext x
  by_cases hx : x = 201
  · subst hx
    rw [mw_oth (fun e => h e.symm), rm_w, rm_w]
  · rw [rm_o hx]
    by_cases ha : x = a
    · subst ha
      funext j
      simp [mw, rm_o hx]
    · rw [mw_oth ha, mw_oth ha, rm_o hx]
theorem rm_ww {N W W' : j_M} {i : Nat} {v : Int32} (h : upd (fl W) i v = fl W') : mw (RM N W) 201 i v = RM N W' := by
  funext x
  by_cases hx : x = 201
  · subst hx
    rw [mw_row (by omega), rm_w, rm_w]
    exact h
  · rw [mw_oth hx, rm_o hx, rm_o hx]
theorem rr_1 {N W : j_M} {k : Nat} (h : k < 14) : RM N W 201 k = W 1 k := fl_1 h
theorem rw_1 {N W : j_M} {k : Nat} {v : Int32} (h : k < 14) : mw (RM N W) 201 k v = RM N (mw W 1 k v) := rm_ww (wr_1 h)
theorem rr_14 {N W : j_M} {k : Nat} (h : k < 56) : RM N W 201 (14 + k) = W 14 k := fl_14 h
theorem rw_14 {N W : j_M} {k : Nat} {v : Int32} (h : k < 56) : mw (RM N W) 201 (14 + k) v = RM N (mw W 14 k v) := rm_ww (wr_14 h)
theorem rr_70 {N W : j_M} {k : Nat} (h : k < 56) : RM N W 201 (70 + k) = W 70 k := fl_70 h
theorem rw_70 {N W : j_M} {k : Nat} {v : Int32} (h : k < 56) : mw (RM N W) 201 (70 + k) v = RM N (mw W 70 k v) := rm_ww (wr_70 h)
theorem rr_126 {N W : j_M} {k : Nat} (h : k < 56) : RM N W 201 (126 + k) = W 126 k := fl_126 h
theorem rw_126 {N W : j_M} {k : Nat} {v : Int32} (h : k < 56) : mw (RM N W) 201 (126 + k) v = RM N (mw W 126 k v) := rm_ww (wr_126 h)
theorem rr_182 {N W : j_M} {k : Nat} (h : k < 56) : RM N W 201 (182 + k) = W 182 k := fl_182 h
theorem rw_182 {N W : j_M} {k : Nat} {v : Int32} (h : k < 56) : mw (RM N W) 201 (182 + k) v = RM N (mw W 182 k v) := rm_ww (wr_182 h)
theorem rr_238 {N W : j_M} {k : Nat} (h : k < 6) : RM N W 201 (238 + k) = W 238 k := fl_238 h
theorem rw_238 {N W : j_M} {k : Nat} {v : Int32} (h : k < 6) : mw (RM N W) 201 (238 + k) v = RM N (mw W 238 k v) := rm_ww (wr_238 h)
theorem rr_244 {N W : j_M} {k : Nat} (h : k < 48) : RM N W 201 (244 + k) = W 244 k := fl_244 h
theorem rw_244 {N W : j_M} {k : Nat} {v : Int32} (h : k < 48) : mw (RM N W) 201 (244 + k) v = RM N (mw W 244 k v) := rm_ww (wr_244 h)
theorem rr_292 {N W : j_M} {k : Nat} (h : k < 6) : RM N W 201 (292 + k) = W 292 k := fl_292 h
theorem rw_292 {N W : j_M} {k : Nat} {v : Int32} (h : k < 6) : mw (RM N W) 201 (292 + k) v = RM N (mw W 292 k v) := rm_ww (wr_292 h)
theorem rr_298 {N W : j_M} {k : Nat} (h : k < 6) : RM N W 201 (298 + k) = W 298 k := fl_298 h
theorem rw_298 {N W : j_M} {k : Nat} {v : Int32} (h : k < 6) : mw (RM N W) 201 (298 + k) v = RM N (mw W 298 k v) := rm_ww (wr_298 h)
theorem rr_304 {N W : j_M} {k : Nat} (h : k < 6) : RM N W 201 (304 + k) = W 304 k := fl_304 h
theorem rw_304 {N W : j_M} {k : Nat} {v : Int32} (h : k < 6) : mw (RM N W) 201 (304 + k) v = RM N (mw W 304 k v) := rm_ww (wr_304 h)
theorem rr_310 {N W : j_M} {k : Nat} (h : k < 6) : RM N W 201 (310 + k) = W 310 k := fl_310 h
theorem rw_310 {N W : j_M} {k : Nat} {v : Int32} (h : k < 6) : mw (RM N W) 201 (310 + k) v = RM N (mw W 310 k v) := rm_ww (wr_310 h)
theorem rr_316 {N W : j_M} {k : Nat} (h : k < 42) : RM N W 201 (316 + k) = W 316 k := fl_316 h
theorem rw_316 {N W : j_M} {k : Nat} {v : Int32} (h : k < 42) : mw (RM N W) 201 (316 + k) v = RM N (mw W 316 k v) := rm_ww (wr_316 h)
theorem rr_358 {N W : j_M} {k : Nat} (h : k < 42) : RM N W 201 (358 + k) = W 358 k := fl_358 h
theorem rw_358 {N W : j_M} {k : Nat} {v : Int32} (h : k < 42) : mw (RM N W) 201 (358 + k) v = RM N (mw W 358 k v) := rm_ww (wr_358 h)
theorem rr_400 {N W : j_M} {k : Nat} (h : k < 42) : RM N W 201 (400 + k) = W 400 k := fl_400 h
theorem rw_400 {N W : j_M} {k : Nat} {v : Int32} (h : k < 42) : mw (RM N W) 201 (400 + k) v = RM N (mw W 400 k v) := rm_ww (wr_400 h)
theorem rr_442 {N W : j_M} {k : Nat} (h : k < 42) : RM N W 201 (442 + k) = W 442 k := fl_442 h
theorem rw_442 {N W : j_M} {k : Nat} {v : Int32} (h : k < 42) : mw (RM N W) 201 (442 + k) v = RM N (mw W 442 k v) := rm_ww (wr_442 h)
theorem rr_484 {N W : j_M} {k : Nat} (h : k < 42) : RM N W 201 (484 + k) = W 484 k := fl_484 h
theorem rw_484 {N W : j_M} {k : Nat} {v : Int32} (h : k < 42) : mw (RM N W) 201 (484 + k) v = RM N (mw W 484 k v) := rm_ww (wr_484 h)
theorem rr_526 {N W : j_M} {k : Nat} (h : k < 6) : RM N W 201 (526 + k) = W 526 k := fl_526 h
theorem rw_526 {N W : j_M} {k : Nat} {v : Int32} (h : k < 6) : mw (RM N W) 201 (526 + k) v = RM N (mw W 526 k v) := rm_ww (wr_526 h)
theorem rr_532 {N W : j_M} {k : Nat} (h : k < 6) : RM N W 201 (532 + k) = W 532 k := fl_532 h
theorem rw_532 {N W : j_M} {k : Nat} {v : Int32} (h : k < 6) : mw (RM N W) 201 (532 + k) v = RM N (mw W 532 k v) := rm_ww (wr_532 h)
theorem rr_538 {N W : j_M} {k : Nat} (h : k < 48) : RM N W 201 (538 + k) = W 538 k := fl_538 h
theorem rw_538 {N W : j_M} {k : Nat} {v : Int32} (h : k < 48) : mw (RM N W) 201 (538 + k) v = RM N (mw W 538 k v) := rm_ww (wr_538 h)
theorem rr_586 {N W : j_M} {k : Nat} (h : k < 2160) : RM N W 201 (586 + k) = W 586 k := fl_586 h
theorem rw_586 {N W : j_M} {k : Nat} {v : Int32} (h : k < 2160) : mw (RM N W) 201 (586 + k) v = RM N (mw W 586 k v) := rm_ww (wr_586 h)
theorem rr_2746 {N W : j_M} {k : Nat} (h : k < 6) : RM N W 201 (2746 + k) = W 2746 k := fl_2746 h
theorem rw_2746 {N W : j_M} {k : Nat} {v : Int32} (h : k < 6) : mw (RM N W) 201 (2746 + k) v = RM N (mw W 2746 k v) := rm_ww (wr_2746 h)
theorem rr_2752 {N W : j_M} {k : Nat} (h : k < 360) : RM N W 201 (2752 + k) = W 2752 k := fl_2752 h
theorem rw_2752 {N W : j_M} {k : Nat} {v : Int32} (h : k < 360) : mw (RM N W) 201 (2752 + k) v = RM N (mw W 2752 k v) := rm_ww (wr_2752 h)
theorem rr_3112 {N W : j_M} {k : Nat} (h : k < 6) : RM N W 201 (3112 + k) = W 3112 k := fl_3112 h
theorem rw_3112 {N W : j_M} {k : Nat} {v : Int32} (h : k < 6) : mw (RM N W) 201 (3112 + k) v = RM N (mw W 3112 k v) := rm_ww (wr_3112 h)
theorem rr_3118 {N W : j_M} {k : Nat} (h : k < 6) : RM N W 201 (3118 + k) = W 3118 k := fl_3118 h
theorem rw_3118 {N W : j_M} {k : Nat} {v : Int32} (h : k < 6) : mw (RM N W) 201 (3118 + k) v = RM N (mw W 3118 k v) := rm_ww (wr_3118 h)
theorem rr_3124 {N W : j_M} {k : Nat} (h : k < 6) : RM N W 201 (3124 + k) = W 3124 k := fl_3124 h
theorem rw_3124 {N W : j_M} {k : Nat} {v : Int32} (h : k < 6) : mw (RM N W) 201 (3124 + k) v = RM N (mw W 3124 k v) := rm_ww (wr_3124 h)
theorem rr_3130 {N W : j_M} {k : Nat} (h : k < 3600) : RM N W 201 (3130 + k) = W 3130 k := fl_3130 h
theorem rw_3130 {N W : j_M} {k : Nat} {v : Int32} (h : k < 3600) : mw (RM N W) 201 (3130 + k) v = RM N (mw W 3130 k v) := rm_ww (wr_3130 h)
theorem rr_6730 {N W : j_M} {k : Nat} (h : k < 6) : RM N W 201 (6730 + k) = W 6730 k := fl_6730 h
theorem rw_6730 {N W : j_M} {k : Nat} {v : Int32} (h : k < 6) : mw (RM N W) 201 (6730 + k) v = RM N (mw W 6730 k v) := rm_ww (wr_6730 h)
theorem rr_6736 {N W : j_M} {k : Nat} (h : k < 30) : RM N W 201 (6736 + k) = W 6736 k := fl_6736 h
theorem rw_6736 {N W : j_M} {k : Nat} {v : Int32} (h : k < 30) : mw (RM N W) 201 (6736 + k) v = RM N (mw W 6736 k v) := rm_ww (wr_6736 h)
theorem rr_6766 {N W : j_M} {k : Nat} (h : k < 48) : RM N W 201 (6766 + k) = W 6766 k := fl_6766 h
theorem rw_6766 {N W : j_M} {k : Nat} {v : Int32} (h : k < 48) : mw (RM N W) 201 (6766 + k) v = RM N (mw W 6766 k v) := rm_ww (wr_6766 h)
theorem rr_6814 {N W : j_M} {k : Nat} (h : k < 147) : RM N W 201 (6814 + k) = W 6814 k := fl_6814 h
theorem rw_6814 {N W : j_M} {k : Nat} {v : Int32} (h : k < 147) : mw (RM N W) 201 (6814 + k) v = RM N (mw W 6814 k v) := rm_ww (wr_6814 h)
theorem rr_6961 {N W : j_M} {k : Nat} (h : k < 1) : RM N W 201 (6961 + k) = W 6961 k := fl_6961 h
theorem rw_6961 {N W : j_M} {k : Nat} {v : Int32} (h : k < 1) : mw (RM N W) 201 (6961 + k) v = RM N (mw W 6961 k v) := rm_ww (wr_6961 h)
theorem rr_6962 {N W : j_M} {k : Nat} (h : k < 400) : RM N W 201 (6962 + k) = W 6962 k := fl_6962 h
theorem rw_6962 {N W : j_M} {k : Nat} {v : Int32} (h : k < 400) : mw (RM N W) 201 (6962 + k) v = RM N (mw W 6962 k v) := rm_ww (wr_6962 h)
theorem rr_7362 {N W : j_M} {k : Nat} (h : k < 1) : RM N W 201 (7362 + k) = W 7362 k := fl_7362 h
theorem rw_7362 {N W : j_M} {k : Nat} {v : Int32} (h : k < 1) : mw (RM N W) 201 (7362 + k) v = RM N (mw W 7362 k v) := rm_ww (wr_7362 h)
theorem rr_7363 {N W : j_M} {k : Nat} (h : k < 1) : RM N W 201 (7363 + k) = W 7363 k := fl_7363 h
theorem rw_7363 {N W : j_M} {k : Nat} {v : Int32} (h : k < 1) : mw (RM N W) 201 (7363 + k) v = RM N (mw W 7363 k v) := rm_ww (wr_7363 h)
theorem rr_7364 {N W : j_M} {k : Nat} (h : k < 96) : RM N W 201 (7364 + k) = W 7364 k := fl_7364 h
theorem rw_7364 {N W : j_M} {k : Nat} {v : Int32} (h : k < 96) : mw (RM N W) 201 (7364 + k) v = RM N (mw W 7364 k v) := rm_ww (wr_7364 h)
theorem rs_6961 {N W : j_M} : RM N W 201 6961 = W 6961 0 := rr_6961 (k := 0) (by omega)
theorem rt_6961 {N W : j_M} {v : Int32} : mw (RM N W) 201 6961 v = RM N (mw W 6961 0 v) := rw_6961 (k := 0) (by omega)
theorem rs_7362 {N W : j_M} : RM N W 201 7362 = W 7362 0 := rr_7362 (k := 0) (by omega)
theorem rt_7362 {N W : j_M} {v : Int32} : mw (RM N W) 201 7362 v = RM N (mw W 7362 0 v) := rw_7362 (k := 0) (by omega)
theorem rs_7363 {N W : j_M} : RM N W 201 7363 = W 7363 0 := rr_7363 (k := 0) (by omega)
theorem rt_7363 {N W : j_M} {v : Int32} : mw (RM N W) 201 7363 v = RM N (mw W 7363 0 v) := rw_7363 (k := 0) (by omega)
/-! ===== memory as the class's caches of id t see it: place k of C is the id t + k - 1 ===== -/
def XM (N : j_M) (t : Nat) (C : j_M) : j_M := fun x => if t ≤ x ∧ x < t + 20 then C (x - t + 1) else N x
theorem xm_r {N C : j_M} {t k : Nat} (h : k < 20) : XM N t C (t + k) = C (k + 1) := by
  unfold XM; rw [if_pos (by omega), Nat.add_sub_cancel_left]
theorem xm_0 {N C : j_M} {t : Nat} : XM N t C t = C 1 := by
  unfold XM; rw [if_pos (by omega), Nat.sub_self]
theorem xm_o {N C : j_M} {t a : Nat} (h : a < t ∨ t + 20 ≤ a) : XM N t C a = N a := by
  unfold XM; rw [if_neg (by omega)]
theorem xm_w {N C : j_M} {t k i : Nat} {v : Int32} (h : k < 20) (ht : t ≠ 0) : mw (XM N t C) (t + k) i v = XM N t (mw C (k + 1) i v) := by
  funext x
  by_cases hx : t ≤ x ∧ x < t + 20
  · obtain ⟨r, rfl⟩ : ∃ r, x = t + r := ⟨x - t, by omega⟩
    rw [xm_r (by omega)]
    by_cases hr : r = k
    · subst hr
      rw [mw_row (by omega), mw_row (by omega), xm_r h]
    · rw [mw_oth (by omega), mw_oth (by omega), xm_r (by omega)]
  · rw [xm_o (by omega), mw_oth (by omega), xm_o (by omega)]
theorem xm_w0 {N C : j_M} {t i : Nat} {v : Int32} (ht : t ≠ 0) : mw (XM N t C) t i v = XM N t (mw C 1 i v) := xm_w (k := 0) (by omega) ht
theorem xm_wo {N C : j_M} {t a i : Nat} {v : Int32} (h : a < t ∨ t + 20 ≤ a) : mw (XM N t C) a i v = XM (mw N a i v) t C := by
  funext x
  by_cases hx : t ≤ x ∧ x < t + 20
  · rw [mw_oth (by omega)]
    unfold XM
    rw [if_pos hx, if_pos hx]
  · rw [xm_o (by omega)]
    by_cases ha : x = a
    · subst ha
      funext j
      simp [mw, xm_o h]
    · rw [mw_oth ha, mw_oth ha, xm_o (by omega)]
/-- the two views commute -/
theorem rm_xm {N W C : j_M} {t : Nat} (ht : t + 20 ≤ 201) : XM (RM N W) t C = RM (XM N t C) W := by
  funext x
  by_cases hx : x = 201
  · subst hx
    rw [rm_w, xm_o (by omega), rm_w]
  · rw [rm_o hx]
    by_cases h : t ≤ x ∧ x < t + 20
    · unfold XM; rw [if_pos h, if_pos h]
    · rw [xm_o (by omega), xm_o (by omega), rm_o hx]
