/-! ===== the reference's regions as natural numbers: S; lines that may be NONE are told by one more (0: NONE) ===== -/
abbrev a_S : Type := Nat → Nat → Nat
def oI (x : Nat) : Int32 := match x with
  | 0 => -1
  | n + 1 => nI n
theorem oI_0 : oI 0 = -1 := rfl
theorem oI_s (n : Nat) : oI (n + 1) = nI n := rfl
def enc (S : a_S) : j_M := fun r k => if r = 292 ∨ r = 538 ∨ (r = 586 ∧ k % 9 = 6) then oI (S r k) else nI (S r k)
def sw (S : a_S) (r i v : Nat) : a_S := fun x j => if x = r ∧ j = i then v else S x j
theorem sw_at {S : a_S} {r i v : Nat} : sw S r i v r i = v := by simp [sw]
theorem sw_r {S : a_S} {r i v x j : Nat} (h : x ≠ r) : sw S r i v x j = S x j := by simp [sw, h]
theorem sw_i {S : a_S} {r i v x j : Nat} (h : j ≠ i) : sw S r i v x j = S x j := by simp [sw, h]
theorem enc_n {S : a_S} {r k : Nat} (h : r ≠ 292 ∧ r ≠ 538 ∧ (r ≠ 586 ∨ k % 9 ≠ 6)) : enc S r k = nI (S r k) := by
  unfold enc; rw [if_neg (by omega)]
theorem enc_o {S : a_S} {r k : Nat} (h : r = 292 ∨ r = 538 ∨ (r = 586 ∧ k % 9 = 6)) : enc S r k = oI (S r k) := by
  unfold enc; rw [if_pos h]
theorem enc_wn {S : a_S} {r i v : Nat} (h0 : r ≠ 0) (h : r ≠ 292 ∧ r ≠ 538 ∧ (r ≠ 586 ∨ i % 9 ≠ 6)) : mw (enc S) r i (nI v) = enc (sw S r i v) := by
  funext x j
  by_cases hx : x = r ∧ j = i
  · obtain ⟨rfl, rfl⟩ := hx
    rw [mw_at h0, enc_n h, sw_at]
  · have e1 : mw (enc S) r i (nI v) x j = enc S x j := by
      unfold mw; rw [if_neg (fun h9 => hx ⟨h9.1, h9.2.1⟩)]
    rw [e1]
    unfold enc sw
    rw [if_neg hx]
theorem enc_wo {S : a_S} {r i v : Nat} {y : Int32} (h0 : r ≠ 0) (h : r = 292 ∨ r = 538 ∨ (r = 586 ∧ i % 9 = 6)) (hy : oI v = y) : mw (enc S) r i y = enc (sw S r i v) := by
  funext x j
  by_cases hx : x = r ∧ j = i
  · obtain ⟨rfl, rfl⟩ := hx
    rw [mw_at h0, enc_o h, sw_at, hy]
  · have e1 : mw (enc S) r i y x j = enc S x j := by
      unfold mw; rw [if_neg (fun h9 => hx ⟨h9.1, h9.2.1⟩)]
    rw [e1]
    unfold enc sw
    rw [if_neg hx]
def RS (N : j_M) (S : a_S) : j_M := RM N (enc S)
theorem rs_o {N : j_M} {S : a_S} {a : Nat} (h : a ≠ 201) : RS N S a = N a := rm_o h
theorem rs_wo {N : j_M} {S : a_S} {a i : Nat} {v : Int32} (h : a ≠ 201) : mw (RS N S) a i v = RS (mw N a i v) S := rm_wo h
theorem sr_1 {N : j_M} {S : a_S} {k : Nat} (h : k < 14) : RS N S 201 k = nI (S 1 k) := (rr_1 h).trans (enc_n (by omega))
theorem st_1 {N : j_M} {S : a_S} {k v : Nat} (h : k < 14) : mw (RS N S) 201 k (nI v) = RS N (sw S 1 k v) := by
  unfold RS; rw [rw_1 h, enc_wn (by omega) (by omega)]
theorem sr_14 {N : j_M} {S : a_S} {k : Nat} (h : k < 56) : RS N S 201 (14 + k) = nI (S 14 k) := (rr_14 h).trans (enc_n (by omega))
theorem st_14 {N : j_M} {S : a_S} {k v : Nat} (h : k < 56) : mw (RS N S) 201 (14 + k) (nI v) = RS N (sw S 14 k v) := by
  unfold RS; rw [rw_14 h, enc_wn (by omega) (by omega)]
theorem sr_70 {N : j_M} {S : a_S} {k : Nat} (h : k < 56) : RS N S 201 (70 + k) = nI (S 70 k) := (rr_70 h).trans (enc_n (by omega))
theorem st_70 {N : j_M} {S : a_S} {k v : Nat} (h : k < 56) : mw (RS N S) 201 (70 + k) (nI v) = RS N (sw S 70 k v) := by
  unfold RS; rw [rw_70 h, enc_wn (by omega) (by omega)]
theorem sr_126 {N : j_M} {S : a_S} {k : Nat} (h : k < 56) : RS N S 201 (126 + k) = nI (S 126 k) := (rr_126 h).trans (enc_n (by omega))
theorem st_126 {N : j_M} {S : a_S} {k v : Nat} (h : k < 56) : mw (RS N S) 201 (126 + k) (nI v) = RS N (sw S 126 k v) := by
  unfold RS; rw [rw_126 h, enc_wn (by omega) (by omega)]
theorem sr_182 {N : j_M} {S : a_S} {k : Nat} (h : k < 56) : RS N S 201 (182 + k) = nI (S 182 k) := (rr_182 h).trans (enc_n (by omega))
theorem st_182 {N : j_M} {S : a_S} {k v : Nat} (h : k < 56) : mw (RS N S) 201 (182 + k) (nI v) = RS N (sw S 182 k v) := by
  unfold RS; rw [rw_182 h, enc_wn (by omega) (by omega)]
theorem sr_238 {N : j_M} {S : a_S} {k : Nat} (h : k < 6) : RS N S 201 (238 + k) = nI (S 238 k) := (rr_238 h).trans (enc_n (by omega))
theorem st_238 {N : j_M} {S : a_S} {k v : Nat} (h : k < 6) : mw (RS N S) 201 (238 + k) (nI v) = RS N (sw S 238 k v) := by
  unfold RS; rw [rw_238 h, enc_wn (by omega) (by omega)]
theorem sr_244 {N : j_M} {S : a_S} {k : Nat} (h : k < 48) : RS N S 201 (244 + k) = nI (S 244 k) := (rr_244 h).trans (enc_n (by omega))
theorem st_244 {N : j_M} {S : a_S} {k v : Nat} (h : k < 48) : mw (RS N S) 201 (244 + k) (nI v) = RS N (sw S 244 k v) := by
  unfold RS; rw [rw_244 h, enc_wn (by omega) (by omega)]
theorem sr_292 {N : j_M} {S : a_S} {k : Nat} (h : k < 6) : RS N S 201 (292 + k) = oI (S 292 k) := (rr_292 h).trans (enc_o (by omega))
theorem st_292 {N : j_M} {S : a_S} {k v : Nat} (h : k < 6) : mw (RS N S) 201 (292 + k) (nI v) = RS N (sw S 292 k (v + 1)) := by
  unfold RS; rw [rw_292 h, enc_wo (v := v + 1) (y := nI v) (by omega) (by omega) rfl]
theorem sm_292 {N : j_M} {S : a_S} {k : Nat} (h : k < 6) : mw (RS N S) 201 (292 + k) (-1) = RS N (sw S 292 k 0) := by
  unfold RS; rw [rw_292 h, enc_wo (v := 0) (y := -1) (by omega) (by omega) rfl]
theorem so_292 {N : j_M} {S : a_S} {k v : Nat} (h : k < 6) : mw (RS N S) 201 (292 + k) (oI v) = RS N (sw S 292 k v) := by
  unfold RS; rw [rw_292 h, enc_wo (v := v) (y := oI v) (by omega) (by omega) rfl]
theorem sr_298 {N : j_M} {S : a_S} {k : Nat} (h : k < 6) : RS N S 201 (298 + k) = nI (S 298 k) := (rr_298 h).trans (enc_n (by omega))
theorem st_298 {N : j_M} {S : a_S} {k v : Nat} (h : k < 6) : mw (RS N S) 201 (298 + k) (nI v) = RS N (sw S 298 k v) := by
  unfold RS; rw [rw_298 h, enc_wn (by omega) (by omega)]
theorem sr_304 {N : j_M} {S : a_S} {k : Nat} (h : k < 6) : RS N S 201 (304 + k) = nI (S 304 k) := (rr_304 h).trans (enc_n (by omega))
theorem st_304 {N : j_M} {S : a_S} {k v : Nat} (h : k < 6) : mw (RS N S) 201 (304 + k) (nI v) = RS N (sw S 304 k v) := by
  unfold RS; rw [rw_304 h, enc_wn (by omega) (by omega)]
theorem sr_310 {N : j_M} {S : a_S} {k : Nat} (h : k < 6) : RS N S 201 (310 + k) = nI (S 310 k) := (rr_310 h).trans (enc_n (by omega))
theorem st_310 {N : j_M} {S : a_S} {k v : Nat} (h : k < 6) : mw (RS N S) 201 (310 + k) (nI v) = RS N (sw S 310 k v) := by
  unfold RS; rw [rw_310 h, enc_wn (by omega) (by omega)]
theorem sr_316 {N : j_M} {S : a_S} {k : Nat} (h : k < 42) : RS N S 201 (316 + k) = nI (S 316 k) := (rr_316 h).trans (enc_n (by omega))
theorem st_316 {N : j_M} {S : a_S} {k v : Nat} (h : k < 42) : mw (RS N S) 201 (316 + k) (nI v) = RS N (sw S 316 k v) := by
  unfold RS; rw [rw_316 h, enc_wn (by omega) (by omega)]
theorem sr_358 {N : j_M} {S : a_S} {k : Nat} (h : k < 42) : RS N S 201 (358 + k) = nI (S 358 k) := (rr_358 h).trans (enc_n (by omega))
theorem st_358 {N : j_M} {S : a_S} {k v : Nat} (h : k < 42) : mw (RS N S) 201 (358 + k) (nI v) = RS N (sw S 358 k v) := by
  unfold RS; rw [rw_358 h, enc_wn (by omega) (by omega)]
theorem sr_400 {N : j_M} {S : a_S} {k : Nat} (h : k < 42) : RS N S 201 (400 + k) = nI (S 400 k) := (rr_400 h).trans (enc_n (by omega))
theorem st_400 {N : j_M} {S : a_S} {k v : Nat} (h : k < 42) : mw (RS N S) 201 (400 + k) (nI v) = RS N (sw S 400 k v) := by
  unfold RS; rw [rw_400 h, enc_wn (by omega) (by omega)]
theorem sr_442 {N : j_M} {S : a_S} {k : Nat} (h : k < 42) : RS N S 201 (442 + k) = nI (S 442 k) := (rr_442 h).trans (enc_n (by omega))
theorem st_442 {N : j_M} {S : a_S} {k v : Nat} (h : k < 42) : mw (RS N S) 201 (442 + k) (nI v) = RS N (sw S 442 k v) := by
  unfold RS; rw [rw_442 h, enc_wn (by omega) (by omega)]
theorem sr_484 {N : j_M} {S : a_S} {k : Nat} (h : k < 42) : RS N S 201 (484 + k) = nI (S 484 k) := (rr_484 h).trans (enc_n (by omega))
theorem st_484 {N : j_M} {S : a_S} {k v : Nat} (h : k < 42) : mw (RS N S) 201 (484 + k) (nI v) = RS N (sw S 484 k v) := by
  unfold RS; rw [rw_484 h, enc_wn (by omega) (by omega)]
theorem sr_526 {N : j_M} {S : a_S} {k : Nat} (h : k < 6) : RS N S 201 (526 + k) = nI (S 526 k) := (rr_526 h).trans (enc_n (by omega))
theorem st_526 {N : j_M} {S : a_S} {k v : Nat} (h : k < 6) : mw (RS N S) 201 (526 + k) (nI v) = RS N (sw S 526 k v) := by
  unfold RS; rw [rw_526 h, enc_wn (by omega) (by omega)]
theorem sr_532 {N : j_M} {S : a_S} {k : Nat} (h : k < 6) : RS N S 201 (532 + k) = nI (S 532 k) := (rr_532 h).trans (enc_n (by omega))
theorem st_532 {N : j_M} {S : a_S} {k v : Nat} (h : k < 6) : mw (RS N S) 201 (532 + k) (nI v) = RS N (sw S 532 k v) := by
  unfold RS; rw [rw_532 h, enc_wn (by omega) (by omega)]
theorem sr_538 {N : j_M} {S : a_S} {k : Nat} (h : k < 48) : RS N S 201 (538 + k) = oI (S 538 k) := (rr_538 h).trans (enc_o (by omega))
theorem st_538 {N : j_M} {S : a_S} {k v : Nat} (h : k < 48) : mw (RS N S) 201 (538 + k) (nI v) = RS N (sw S 538 k (v + 1)) := by
  unfold RS; rw [rw_538 h, enc_wo (v := v + 1) (y := nI v) (by omega) (by omega) rfl]
theorem sm_538 {N : j_M} {S : a_S} {k : Nat} (h : k < 48) : mw (RS N S) 201 (538 + k) (-1) = RS N (sw S 538 k 0) := by
  unfold RS; rw [rw_538 h, enc_wo (v := 0) (y := -1) (by omega) (by omega) rfl]
theorem so_538 {N : j_M} {S : a_S} {k v : Nat} (h : k < 48) : mw (RS N S) 201 (538 + k) (oI v) = RS N (sw S 538 k v) := by
  unfold RS; rw [rw_538 h, enc_wo (v := v) (y := oI v) (by omega) (by omega) rfl]
theorem sr_586 {N : j_M} {S : a_S} {k : Nat} (h : k < 2160) (h6 : k % 9 ≠ 6) : RS N S 201 (586 + k) = nI (S 586 k) := (rr_586 h).trans (enc_n (by omega))
theorem so_586 {N : j_M} {S : a_S} {k : Nat} (h : k < 2160) (h6 : k % 9 = 6) : RS N S 201 (586 + k) = oI (S 586 k) := (rr_586 h).trans (enc_o (by omega))
theorem st_586 {N : j_M} {S : a_S} {k v : Nat} (h : k < 2160) (h6 : k % 9 ≠ 6) : mw (RS N S) 201 (586 + k) (nI v) = RS N (sw S 586 k v) := by
  unfold RS; rw [rw_586 h, enc_wn (by omega) (by omega)]
theorem sm_586 {N : j_M} {S : a_S} {k : Nat} (h : k < 2160) (h6 : k % 9 = 6) : mw (RS N S) 201 (586 + k) (-1) = RS N (sw S 586 k 0) := by
  unfold RS; rw [rw_586 h, enc_wo (v := 0) (y := -1) (by omega) (by omega) rfl]
theorem sn_586 {N : j_M} {S : a_S} {k v : Nat} (h : k < 2160) (h6 : k % 9 = 6) : mw (RS N S) 201 (586 + k) (nI v) = RS N (sw S 586 k (v + 1)) := by
  unfold RS; rw [rw_586 h, enc_wo (v := v + 1) (y := nI v) (by omega) (by omega) rfl]
theorem sp_586 {N : j_M} {S : a_S} {k v : Nat} (h : k < 2160) (h6 : k % 9 = 6) : mw (RS N S) 201 (586 + k) (oI v) = RS N (sw S 586 k v) := by
  unfold RS; rw [rw_586 h, enc_wo (v := v) (y := oI v) (by omega) (by omega) rfl]
theorem sr_2746 {N : j_M} {S : a_S} {k : Nat} (h : k < 6) : RS N S 201 (2746 + k) = nI (S 2746 k) := (rr_2746 h).trans (enc_n (by omega))
theorem st_2746 {N : j_M} {S : a_S} {k v : Nat} (h : k < 6) : mw (RS N S) 201 (2746 + k) (nI v) = RS N (sw S 2746 k v) := by
  unfold RS; rw [rw_2746 h, enc_wn (by omega) (by omega)]
theorem sr_2752 {N : j_M} {S : a_S} {k : Nat} (h : k < 360) : RS N S 201 (2752 + k) = nI (S 2752 k) := (rr_2752 h).trans (enc_n (by omega))
theorem st_2752 {N : j_M} {S : a_S} {k v : Nat} (h : k < 360) : mw (RS N S) 201 (2752 + k) (nI v) = RS N (sw S 2752 k v) := by
  unfold RS; rw [rw_2752 h, enc_wn (by omega) (by omega)]
theorem sr_3112 {N : j_M} {S : a_S} {k : Nat} (h : k < 6) : RS N S 201 (3112 + k) = nI (S 3112 k) := (rr_3112 h).trans (enc_n (by omega))
theorem st_3112 {N : j_M} {S : a_S} {k v : Nat} (h : k < 6) : mw (RS N S) 201 (3112 + k) (nI v) = RS N (sw S 3112 k v) := by
  unfold RS; rw [rw_3112 h, enc_wn (by omega) (by omega)]
theorem sr_3118 {N : j_M} {S : a_S} {k : Nat} (h : k < 6) : RS N S 201 (3118 + k) = nI (S 3118 k) := (rr_3118 h).trans (enc_n (by omega))
theorem st_3118 {N : j_M} {S : a_S} {k v : Nat} (h : k < 6) : mw (RS N S) 201 (3118 + k) (nI v) = RS N (sw S 3118 k v) := by
  unfold RS; rw [rw_3118 h, enc_wn (by omega) (by omega)]
theorem sr_3124 {N : j_M} {S : a_S} {k : Nat} (h : k < 6) : RS N S 201 (3124 + k) = nI (S 3124 k) := (rr_3124 h).trans (enc_n (by omega))
theorem st_3124 {N : j_M} {S : a_S} {k v : Nat} (h : k < 6) : mw (RS N S) 201 (3124 + k) (nI v) = RS N (sw S 3124 k v) := by
  unfold RS; rw [rw_3124 h, enc_wn (by omega) (by omega)]
theorem sr_3130 {N : j_M} {S : a_S} {k : Nat} (h : k < 3600) : RS N S 201 (3130 + k) = nI (S 3130 k) := (rr_3130 h).trans (enc_n (by omega))
theorem st_3130 {N : j_M} {S : a_S} {k v : Nat} (h : k < 3600) : mw (RS N S) 201 (3130 + k) (nI v) = RS N (sw S 3130 k v) := by
  unfold RS; rw [rw_3130 h, enc_wn (by omega) (by omega)]
theorem sr_6730 {N : j_M} {S : a_S} {k : Nat} (h : k < 6) : RS N S 201 (6730 + k) = nI (S 6730 k) := (rr_6730 h).trans (enc_n (by omega))
theorem st_6730 {N : j_M} {S : a_S} {k v : Nat} (h : k < 6) : mw (RS N S) 201 (6730 + k) (nI v) = RS N (sw S 6730 k v) := by
  unfold RS; rw [rw_6730 h, enc_wn (by omega) (by omega)]
theorem sr_6736 {N : j_M} {S : a_S} {k : Nat} (h : k < 30) : RS N S 201 (6736 + k) = nI (S 6736 k) := (rr_6736 h).trans (enc_n (by omega))
theorem st_6736 {N : j_M} {S : a_S} {k v : Nat} (h : k < 30) : mw (RS N S) 201 (6736 + k) (nI v) = RS N (sw S 6736 k v) := by
  unfold RS; rw [rw_6736 h, enc_wn (by omega) (by omega)]
theorem sr_6766 {N : j_M} {S : a_S} {k : Nat} (h : k < 48) : RS N S 201 (6766 + k) = nI (S 6766 k) := (rr_6766 h).trans (enc_n (by omega))
theorem st_6766 {N : j_M} {S : a_S} {k v : Nat} (h : k < 48) : mw (RS N S) 201 (6766 + k) (nI v) = RS N (sw S 6766 k v) := by
  unfold RS; rw [rw_6766 h, enc_wn (by omega) (by omega)]
theorem sr_6814 {N : j_M} {S : a_S} {k : Nat} (h : k < 147) : RS N S 201 (6814 + k) = nI (S 6814 k) := (rr_6814 h).trans (enc_n (by omega))
theorem st_6814 {N : j_M} {S : a_S} {k v : Nat} (h : k < 147) : mw (RS N S) 201 (6814 + k) (nI v) = RS N (sw S 6814 k v) := by
  unfold RS; rw [rw_6814 h, enc_wn (by omega) (by omega)]
theorem sr_6961 {N : j_M} {S : a_S} {k : Nat} (h : k < 1) : RS N S 201 (6961 + k) = nI (S 6961 k) := (rr_6961 h).trans (enc_n (by omega))
theorem st_6961 {N : j_M} {S : a_S} {k v : Nat} (h : k < 1) : mw (RS N S) 201 (6961 + k) (nI v) = RS N (sw S 6961 k v) := by
  unfold RS; rw [rw_6961 h, enc_wn (by omega) (by omega)]
theorem sr_6962 {N : j_M} {S : a_S} {k : Nat} (h : k < 400) : RS N S 201 (6962 + k) = nI (S 6962 k) := (rr_6962 h).trans (enc_n (by omega))
theorem st_6962 {N : j_M} {S : a_S} {k v : Nat} (h : k < 400) : mw (RS N S) 201 (6962 + k) (nI v) = RS N (sw S 6962 k v) := by
  unfold RS; rw [rw_6962 h, enc_wn (by omega) (by omega)]
theorem sr_7362 {N : j_M} {S : a_S} {k : Nat} (h : k < 1) : RS N S 201 (7362 + k) = nI (S 7362 k) := (rr_7362 h).trans (enc_n (by omega))
theorem st_7362 {N : j_M} {S : a_S} {k v : Nat} (h : k < 1) : mw (RS N S) 201 (7362 + k) (nI v) = RS N (sw S 7362 k v) := by
  unfold RS; rw [rw_7362 h, enc_wn (by omega) (by omega)]
theorem sr_7363 {N : j_M} {S : a_S} {k : Nat} (h : k < 1) : RS N S 201 (7363 + k) = nI (S 7363 k) := (rr_7363 h).trans (enc_n (by omega))
theorem st_7363 {N : j_M} {S : a_S} {k v : Nat} (h : k < 1) : mw (RS N S) 201 (7363 + k) (nI v) = RS N (sw S 7363 k v) := by
  unfold RS; rw [rw_7363 h, enc_wn (by omega) (by omega)]
theorem sr_7364 {N : j_M} {S : a_S} {k : Nat} (h : k < 96) : RS N S 201 (7364 + k) = nI (S 7364 k) := (rr_7364 h).trans (enc_n (by omega))
theorem st_7364 {N : j_M} {S : a_S} {k v : Nat} (h : k < 96) : mw (RS N S) 201 (7364 + k) (nI v) = RS N (sw S 7364 k v) := by
  unfold RS; rw [rw_7364 h, enc_wn (by omega) (by omega)]
theorem su_6961 {N : j_M} {S : a_S} : RS N S 201 6961 = nI (S 6961 0) := sr_6961 (k := 0) (by omega)
theorem sv_6961 {N : j_M} {S : a_S} {v : Nat} : mw (RS N S) 201 6961 (nI v) = RS N (sw S 6961 0 v) := st_6961 (k := 0) (by omega)
theorem su_7362 {N : j_M} {S : a_S} : RS N S 201 7362 = nI (S 7362 0) := sr_7362 (k := 0) (by omega)
theorem sv_7362 {N : j_M} {S : a_S} {v : Nat} : mw (RS N S) 201 7362 (nI v) = RS N (sw S 7362 0 v) := st_7362 (k := 0) (by omega)
theorem su_7363 {N : j_M} {S : a_S} : RS N S 201 7363 = nI (S 7363 0) := sr_7363 (k := 0) (by omega)
theorem sv_7363 {N : j_M} {S : a_S} {v : Nat} : mw (RS N S) 201 7363 (nI v) = RS N (sw S 7363 0 v) := st_7363 (k := 0) (by omega)
theorem oI_m1 {x : Nat} (h : x < 2147483648) : (oI x = -1) = (x = 0) := by
  cases x with
  | zero => simp [oI_0]
  | succ n => rw [oI_s, e_m1 (by omega)]; simp
theorem oI_eq {x n : Nat} (h : x < 2147483648) (hn : n < 2147483647) : (oI x = nI n) = (x = n + 1) := by
  cases x with
  | zero => rw [oI_0, e_m1' (by omega)]; simp
  | succ m => rw [oI_s, e_eq (by omega) (by omega)]; simp
