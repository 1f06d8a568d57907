/-! ===== the start ===== -/
/-- a row of noughts -/
def zS : a_S := fun r i => if r = 292 ∨ r = 538 ∨ (r = 586 ∧ i % 9 = 6) then 1 else 0
theorem fl_zS {j : Nat} : fl (enc zS) j = 0 := by
  unfold fl enc zS
  by_cases c : rgW j = 292 ∨ rgW j = 538 ∨ (rgW j = 586 ∧ (j - bsW (rgW j)) % 9 = 6)
  · rw [if_pos c, if_pos c]; decide
  · rw [if_neg c, if_neg c]; decide
theorem i_253 {N : j_M} {f : Nat} : ∀ (m l : Nat) (S : a_S), l + m = 48 → xX12_init_253 (f + m + 1) (nI l) (RS N S) = some (RS N (fun r i => if r = 538 ∧ l ≤ i ∧ i < 48 then 0 else S r i)) := by
  intro m
  induction m with
  | zero =>
    intro l S hl
    rw [xX12_init_253.eq_2, if_pos (by rw [e_le (by omega) (by omega)]; omega)]
    congr 2
    funext r i
    rw [if_neg (by omega)]
  | succ m ih =>
    intro l S hl
    rw [show f + (m + 1) + 1 = (f + m + 1) + 1 by omega, xX12_init_253.eq_2, if_neg (by rw [e_le (by omega) (by omega)]; omega), e_add, e_gd (by omega) (by omega), e_ix2 (by omega), sm_538 (by omega), e_oml2, e_add, ih (l + 1) _ (by omega)]
    congr 2
    funext r i
    unfold sw
    by_cases c : r = 538 ∧ l + 1 ≤ i ∧ i < 48
    · rw [if_pos c, if_pos (by omega)]
    · rw [if_neg c]
      by_cases c2 : r = 538 ∧ i = l
      · rw [if_pos c2, if_pos (by omega)]
      · rw [if_neg c2, if_neg (by omega)]
theorem i_228 {N : j_M} {f : Nat} : ∀ (m l : Nat) (S : a_S), l + m = 6 → xX12_init_228 (f + m + 1) (nI l) (RS N S) = xX12_init_253 fu (nI 0) (RS N (fun r i => if r = 292 ∧ l ≤ i ∧ i < 6 then 0 else S r i)) := by
  intro m
  induction m with
  | zero =>
    intro l S hl
    rw [xX12_init_228.eq_2, if_pos (by rw [e_le (by omega) (by omega)]; omega)]
    congr 2
    funext r i
    rw [if_neg (by omega)]
  | succ m ih =>
    intro l S hl
    rw [show f + (m + 1) + 1 = (f + m + 1) + 1 by omega, xX12_init_228.eq_2, if_neg (by rw [e_le (by omega) (by omega)]; omega), e_add, e_gd (by omega) (by omega), e_ix2 (by omega), sm_292 (by omega), e_oml2, e_add, ih (l + 1) _ (by omega)]
    congr 2
    funext r i
    unfold sw
    by_cases c : r = 292 ∧ l + 1 ≤ i ∧ i < 6
    · rw [if_pos c, if_pos (by omega)]
    · rw [if_neg c]
      by_cases c2 : r = 292 ∧ i = l
      · rw [if_pos c2, if_pos (by omega)]
      · rw [if_neg c2, if_neg (by omega)]
def i14 (l : Nat) (S : a_S) : a_S := fun r i => if r = 14 ∧ 48 + l ≤ i ∧ i < 56 then 8 else if (r = 70 ∨ r = 126) ∧ 48 + l ≤ i ∧ i < 56 then 1 else S r i
theorem i_168 {N : j_M} {f : Nat} : ∀ (m l : Nat) (S : a_S), l + m = 8 → xX12_init_168 (f + m + 1) (nI l) (RS N S) = xX12_init_228 fu (nI 0) (RS N (i14 l S)) := by
  intro m
  induction m with
  | zero =>
    intro l S hl
    rw [xX12_init_168.eq_2, if_pos (by rw [e_le (by omega) (by omega)]; omega)]
    congr 2
    funext r i
    unfold i14
    rw [if_neg (by omega), if_neg (by omega)]
  | succ m ih =>
    intro l S hl
    rw [show f + (m + 1) + 1 = (f + m + 1) + 1 by omega, xX12_init_168.eq_2, if_neg (by rw [e_le (by omega) (by omega)]; omega)]
    unfold xX12_place
    rw [e_obi2, e_mul, e_add, e_add, e_gd (by omega) (by omega), e_ix2 (by omega), show 8 * 6 + l = 48 + l by omega, st_14 (by omega), e_oml2, e_obi2, e_add, e_gd (by omega) (by omega), e_ix2 (by omega), st_70 (by omega), e_oml2, e_obi2, e_add, e_gd (by omega) (by omega), e_ix2 (by omega), st_126 (by omega), e_oml2, e_add, ih (l + 1) _ (by omega)]
    congr 2
    funext r i
    unfold i14 sw
    by_cases c : r = 14 ∧ 48 + (l + 1) ≤ i ∧ i < 56
    · rw [if_pos c, if_pos (by omega)]
    · rw [if_neg c]
      by_cases c2 : (r = 70 ∨ r = 126) ∧ 48 + (l + 1) ≤ i ∧ i < 56
      · rw [if_pos c2, if_neg (by omega), if_pos (by omega)]
      · rw [if_neg c2]
        by_cases d1 : r = 126 ∧ i = 48 + l
        · rw [if_pos d1, if_neg (by omega), if_pos (by omega)]
        · rw [if_neg d1]
          by_cases d2 : r = 70 ∧ i = 48 + l
          · rw [if_pos d2, if_neg (by omega), if_pos (by omega)]
          · rw [if_neg d2]
            by_cases d3 : r = 14 ∧ i = 48 + l
            · rw [if_pos d3, if_pos (by omega)]
            · rw [if_neg d3, if_neg (by omega), if_neg (by omega)]
/-- the state at the start -/
def iS : a_S := fun r i => if r = 538 ∧ 0 ≤ i ∧ i < 48 then 0 else if r = 292 ∧ 0 ≤ i ∧ i < 6 then 0 else i14 0 (sw (sw (sw (sw zS 1 0 3) 1 1 8) 1 2 4) 1 4 6) r i
theorem r_init {M : j_M} (h : M 201 = fun _ => 0) : xX12_init M = some (RS M iS) := by
  have h0 : M 201 = fl (enc zS) := by
    rw [h]
    funext j
    rw [fl_zS]
  have e0 : RS M zS = M := rs_self h0
  have e1 : xX12_init M = xX12_init (RS M zS) := by rw [e0]
  rw [e1]
  unfold xX12_init
  rw [e_gd (by omega) (by omega), e_ix2 (by omega), st_1 (by omega), e_oml2, e_gd (by omega) (by omega), e_ix2 (by omega), st_1 (by omega), e_oml2, e_gd (by omega) (by omega), e_ix2 (by omega), st_1 (by omega), e_oml2, e_gd (by omega) (by omega), e_ix2 (by omega), st_1 (by omega), e_oml2, show fu = 999991 + 8 + 1 by unfold fu; omega, i_168 8 0 _ (by omega), show fu = 999993 + 6 + 1 by unfold fu; omega, i_228 6 0 _ (by omega), show fu = 999951 + 48 + 1 by unfold fu; omega, i_253 48 0 _ (by omega)]
  rfl
theorem iS_1 {i : Nat} : iS 1 i = if i = 0 then 3 else if i = 1 then 8 else if i = 2 then 4 else if i = 4 then 6 else 0 := by
  unfold iS i14 sw zS
  rw [if_neg (by omega), if_neg (by omega), if_neg (by omega), if_neg (by omega)]
  by_cases c4 : i = 4
  · rw [if_pos ⟨rfl, c4⟩, if_neg (by omega), if_neg (by omega), if_neg (by omega), if_pos c4]
  · rw [if_neg (fun q => c4 q.2)]
    by_cases c2 : i = 2
    · rw [if_pos ⟨rfl, c2⟩, if_neg (by omega), if_neg (by omega), if_pos c2]
    · rw [if_neg (fun q => c2 q.2)]
      by_cases c1 : i = 1
      · rw [if_pos ⟨rfl, c1⟩, if_neg (by omega), if_pos c1]
      · rw [if_neg (fun q => c1 q.2)]
        by_cases c0 : i = 0
        · rw [if_pos ⟨rfl, c0⟩, if_pos c0]
        · rw [if_neg (fun q => c0 q.2), if_neg (by omega), if_neg c0, if_neg c1, if_neg c2, if_neg c4]
theorem iS_0 {r i : Nat} (h : r ≠ 1 ∧ r ≠ 14 ∧ r ≠ 70 ∧ r ≠ 126 ∧ r ≠ 292 ∧ r ≠ 538 ∧ r ≠ 586) : iS r i = 0 := by
  unfold iS i14 sw zS
  rw [if_neg (by omega), if_neg (by omega), if_neg (by omega), if_neg (by omega), if_neg (by omega), if_neg (by omega), if_neg (by omega), if_neg (by omega), if_neg (by omega)]
theorem iS_292 {i : Nat} (h : i < 6) : iS 292 i = 0 := by
  unfold iS
  rw [if_neg (by omega), if_pos (by omega)]
theorem iS_538 {i : Nat} (h : i < 48) : iS 538 i = 0 := by
  unfold iS
  rw [if_pos (by omega)]
theorem iS_14 {i : Nat} : iS 14 i = if 48 ≤ i ∧ i < 56 then 8 else 0 := by
  unfold iS i14 sw zS
  rw [if_neg (by omega), if_neg (by omega)]
  by_cases c : 48 ≤ i ∧ i < 56
  · rw [if_pos (by omega), if_pos c]
  · rw [if_neg (by omega), if_neg (by omega), if_neg (by omega), if_neg (by omega), if_neg (by omega), if_neg (by omega), if_neg (by omega), if_neg c]
theorem iS_b {r i : Nat} (h : r ≠ 1 ∧ r ≠ 14) : iS r i ≤ 1 := by
  unfold iS i14 sw zS
  by_cases a1 : r = 538 ∧ 0 ≤ i ∧ i < 48
  · rw [if_pos a1]; omega
  · rw [if_neg a1]
    by_cases a2 : r = 292 ∧ 0 ≤ i ∧ i < 6
    · rw [if_pos a2]; omega
    · rw [if_neg a2, if_neg (by omega)]
      by_cases a3 : (r = 70 ∨ r = 126) ∧ 48 + 0 ≤ i ∧ i < 56
      · rw [if_pos a3]; omega
      · rw [if_neg a3, if_neg (by omega), if_neg (by omega), if_neg (by omega), if_neg (by omega)]
        split <;> omega
theorem iS_586 {i : Nat} (h : i % 9 ≠ 6) : iS 586 i = 0 := by
  unfold iS i14 sw zS
  rw [if_neg (by omega), if_neg (by omega), if_neg (by omega), if_neg (by omega), if_neg (by omega), if_neg (by omega), if_neg (by omega), if_neg (by omega), if_neg (by omega)]
theorem iS_rg : RG iS := by
  intro r i
  by_cases c1 : r = 1
  · subst c1
    rw [iS_1]
    unfold rg
    refine ⟨fun _ => ?_, by omega, by omega, by omega, by omega, by omega, by omega, by omega, by omega, by omega, by omega, by omega, by omega⟩
    by_cases a : i = 0
    · rw [if_pos a]; omega
    · rw [if_neg a]
      by_cases b : i = 1
      · rw [if_pos b]; omega
      · rw [if_neg b]
        by_cases c : i = 2
        · rw [if_pos c]; omega
        · rw [if_neg c]
          by_cases d : i = 4
          · rw [if_pos d]; omega
          · rw [if_neg d]; omega
  · by_cases c2 : r = 14
    · subst c2
      have hb : iS 14 i ≤ 8 := by rw [iS_14]; split <;> omega
      generalize iS 14 i = v at hb
      unfold rg
      refine ⟨by omega, by omega, by omega, by omega, by omega, by omega, by omega, by omega, by omega, by omega, by omega, by omega, by omega⟩
    · have hb := iS_b (r := r) (i := i) ⟨c1, c2⟩
      by_cases c3 : r = 586
      · subst c3
        have h6 := iS_586 (i := i)
        generalize iS 586 i = v at hb h6
        unfold rg
        refine ⟨by omega, by omega, by omega, by omega, by omega, by omega, by omega, by omega, by omega, by omega, by omega, by omega, fun _ => ?_⟩
        omega
      · generalize iS r i = v at hb
        unfold rg
        refine ⟨by omega, by omega, by omega, by omega, by omega, by omega, by omega, by omega, by omega, by omega, by omega, by omega, by omega⟩
theorem iS_q {φ : (Nat → Nat) → Nat} : mq iS φ = 0 := rfl
theorem iS_ok : OKS iS 0 := by
  have z : ∀ r i, (r ≠ 1 ∧ r ≠ 14 ∧ r ≠ 70 ∧ r ≠ 126 ∧ r ≠ 292 ∧ r ≠ 538 ∧ r ≠ 586) → iS r i = 0 := fun r i h => iS_0 h
  have h7 : iS 1 7 = 0 := rfl
  have h5 : iS 1 5 = 0 := rfl
  refine ⟨⟨iS_rg, fun c hc k k' h1 h2 => ?_, fun c hc => ⟨fun k hk => ?_, fun k _ _ => z 244 _ (by omega)⟩, fun i hi => ?_, fun l hl => ?_, ⟨by rw [iS_q]; omega, fun c hc => ⟨by rw [iS_q]; omega, by rw [iS_q]; omega, fun _ => iS_q⟩⟩, ⟨by rw [iS_1]; decide, by rw [iS_1, iS_1]; decide, by rw [iS_1]; decide, by rw [iS_1]; decide⟩, fun c hc => ⟨fun _ => ⟨z 298 c (by omega), z 304 c (by omega), z 310 c (by omega)⟩, fun w => absurd (iS_292 hc) w⟩, fun c l hc hl => ⟨by rw [iS_538 (by omega)]; omega, by rw [z 6766 _ (by omega), Nat.zero_div]⟩, fun c hc => ⟨by rw [z 532 c (by omega)]; omega, by rw [z 6730 c (by omega)]; omega, by rw [z 316 _ (by omega)]; omega⟩, rfl, rfl, rfl⟩, ⟨fun c hc => ⟨by rw [z 3112 c (by omega)]; omega, by rw [z 3118 c (by omega)]; omega, by rw [z 3124 c (by omega)]; omega⟩, fun c k hc hk => ?_, by rw [z 7362 0 (by omega)]; omega, by rw [z 7363 0 (by omega)]; omega, fun p hp => ?_⟩, fun j hj => ⟨by rw [z 6962 _ (by omega)]; omega, by rw [z 6962 _ (by omega)]; omega, by rw [z 6962 _ (by omega)]; omega, by rw [z 6962 _ (by omega)]; omega⟩, by omega, by rw [z 6961 0 (by omega)]; omega, by omega⟩
  · rw [z 238 c (by omega)] at h2; omega
  · rw [z 238 c (by omega)] at hk; omega
  · rw [h7] at hi; omega
  · unfold tkn
    rw [iS_q]
    have e1 : ∀ g : Nat → Nat, sm g 7 = g 0 + g 1 + g 2 + g 3 + g 4 + g 5 + g 6 := fun g => by
      show sm g 6 + g 6 = _
      rw [sm_6]
    have e2 : iS 1 1 = 8 := rfl
    have e3 : ∀ n, n < 6 → iS 14 (8 * n + l) = 0 := fun n hn => by rw [iS_14, if_neg (by omega)]
    have e4 : iS 14 (8 * 6 + l) = 8 := by rw [iS_14, if_pos (by omega)]
    have e5 : z0 l = 0 := rfl
    rw [e1, e2, e3 0 (by omega), e3 1 (by omega), e3 2 (by omega), e3 3 (by omega), e3 4 (by omega), e3 5 (by omega), e4, e5]
  · rw [z 3112 c (by omega)] at hk; omega
  · rw [z 7362 0 (by omega)] at hp; omega
set_option maxRecDepth 100000 in
theorem iS_cv : ∀ k, k < 20 → ∀ j, j < ch k → cl k ≤ j → ini_c 2 (2 + k) j = cv iS k j := by decide +kernel
theorem s_start_LW (xs : Nat → Int32) : LW (RS (md (mx (k0 xs))) iS) 0 0 := by
  have z : ∀ r i, (r ≠ 1 ∧ r ≠ 14 ∧ r ≠ 70 ∧ r ≠ 126 ∧ r ≠ 292 ∧ r ≠ 538 ∧ r ≠ 586) → iS r i = 0 := fun r i h => iS_0 h
  have o : ∀ x, x ≠ 201 → RS (md (mx (k0 xs))) iS x = md (mx (k0 xs)) x := fun x hx => rs_o hx
  have c : ∀ x j, 1 ≤ x → x < 28 → md (mx (k0 xs)) x j = ini_c 2 x j := fun x j h1 h2 => by
    unfold md mx
    rw [if_neg (by omega), if_neg (by omega), if_neg (by omega), if_pos h2]
  have c0 : ∀ x j, 22 ≤ x → x < 28 → md (mx (k0 xs)) x j = 0 := fun x j h1 h2 => by
    rw [c x j (by omega) h2]
    unfold ini_c
    rw [if_neg (by omega), if_neg (by omega), if_neg (by omega)]
  have n0 : ∀ r i, (r ≠ 1 ∧ r ≠ 14 ∧ r ≠ 70 ∧ r ≠ 126 ∧ r ≠ 292 ∧ r ≠ 538 ∧ r ≠ 586) → nI (iS r i) = 0 := fun r i h => by rw [z r i h]; decide
  have kx : ∀ x, 300 ≤ x → md (mx (k0 xs)) x = k0 xs x := fun x hx => by
    funext j
    unfold md mx
    rw [if_neg (by omega), if_neg (by omega), if_neg (by omega), if_neg (by omega), if_neg (by omega), if_neg (by omega)]
  refine ⟨iS, ⟨rs_201, fun k j hk h1 h2 => ?_, ⟨fun q hq => ⟨?_, ?_, ?_⟩, fun q k hq hk => ?_, ?_, ?_, ?_, fun p hp => ?_⟩⟩, iS_ok, ⟨0, by omega, ?_, ?_, fun i hi => absurd hi (Nat.not_lt_zero _)⟩, ⟨?_, ?_⟩, fun j hj => ⟨?_, ?_, ?_⟩, Or.inl ⟨?_, ?_⟩, Or.inl ?_, Or.inl ?_⟩
  · rw [o (2 + k) (by omega), c (2 + k) j (by omega) (by omega)]
    exact iS_cv k hk j h2 h1
  · rw [o (1 + 23) (by omega), c0 (1 + 23) q (by omega) (by omega), n0 3112 q (by omega)]
  · rw [o (1 + 24) (by omega), c0 (1 + 24) q (by omega) (by omega), n0 3118 q (by omega)]
  · rw [o (1 + 25) (by omega), c0 (1 + 25) q (by omega) (by omega), n0 3124 q (by omega)]
  · rw [z 3112 q (by omega)] at hk; omega
  · rw [o (1 + 21) (by omega), c0 (1 + 21) 5 (by omega) (by omega), n0 7362 0 (by omega)]
  · rw [o (1 + 21) (by omega), c0 (1 + 21) 6 (by omega) (by omega), n0 7363 0 (by omega)]
  · rw [o (1 + 21) (by omega), c0 (1 + 21) 7 (by omega) (by omega)]
    decide
  · rw [z 7362 0 (by omega)] at hp; omega
  · rw [o 28 (by omega)]; rfl
  · rw [o 200 (by omega)]; rfl
  · rw [o 28 (by omega), o 200 (by omega)]; rfl
  · rw [o 28 (by omega), o 200 (by omega)]; rfl
  · rw [o 300 (by omega), kx 300 (by omega)]; rfl
  · rw [o 301 (by omega), kx 301 (by omega)]; rfl
  · rw [o 302 (by omega), kx 302 (by omega)]; rfl
  · rw [o 0 (by omega)]; rfl
  · rw [o 200 (by omega)]; rfl
  · rw [o 0 (by omega)]; rfl
  · rw [o 0 (by omega)]; rfl
theorem s_main_holds : s_main := by
  intro L xs hL
  have h1 : md (mx (k0 xs)) 201 = fun _ => 0 := by
    funext j
    unfold md
    rw [if_neg (by omega), if_pos (by omega)]
  obtain ⟨M3, h3⟩ := law_loop (f := 999487) hL 512 0 _ 0 0 (by omega) (by omega) (by omega) (by omega) (s_start_LW xs)
  refine ⟨_, M3, r_init h1, fun j => ?_, ?_⟩
  · rw [rs_o (by omega)]; rfl
  · unfold xL_law
    rw [show fu = 999487 + 512 + 1 by unfold fu; omega, h3]
    rfl
