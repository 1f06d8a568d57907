/-! what is made late joins the world -/
def l_io (io : Nat → Nat) (b n z : Nat) (off : Nat → Nat) : Nat → Nat := fun x => if b ≤ x ∧ x < b + n then z + off (x - b) else io x
def l_Lv (Lv : j_L) (b n : Nat) (kd : Nat → Nat × Nat) : j_L := fun k l a => Lv k l a ∨ (b ≤ a ∧ a < b + n ∧ kd (a - b) = (k, l))
def l_ok (D : va_G) (aI : ClassId) (io : Nat → Nat) (M : j_M) (b n : Nat) (kd : Nat → Nat × Nat) (H : Heap) (r : Nat) : Prop :=
  (∃ l, kd r = (1, l) ∧ H[io (b + r)]? = some (arrV aI l (fun j => .int (M (b + r) j)))) ∨
  (∃ ci q, kd r = (10 + ci, 0) ∧ vwCl[ci]? = some q ∧ t_OB (io (b + r)) (D.1 ci) q.2.2 (D.2 ci) H (j_fv io M ci (b + r)) ∧ ∀ f, f < q.2.2 → ∀ g, j_fs ci f = some g → g.2.2.2 = false ∧ r + g.2.2.1 < n ∧ kd (r + g.2.2.1) = (g.1, g.2.1))
def l_bk (kf b n : Nat) : Prop := (kf = 2 ∧ b = 40 ∧ n = 27) ∨ (kf = 3 ∧ b = 70 ∧ n = 20) ∨ (kf = 4 ∧ b = 100 ∧ n = 11)
theorem j_fs6 {f : Nat} (hf : f < 5) : (f = 0 ∧ j_fs 6 f = some (12, 0, 1, false)) ∨ (f = 1 ∧ j_fs 6 f = some (13, 0, 28, false)) ∨ (f = 2 ∧ j_fs 6 f = some (12, 0, 40, true)) ∨ (f = 3 ∧ j_fs 6 f = some (10, 0, 70, true)) ∨ (f = 4 ∧ j_fs 6 f = some (15, 0, 100, true)) := by
  match f, hf with
  | 0, _ => exact Or.inl ⟨rfl, rfl⟩
  | 1, _ => exact Or.inr (Or.inl ⟨rfl, rfl⟩)
  | 2, _ => exact Or.inr (Or.inr (Or.inl ⟨rfl, rfl⟩))
  | 3, _ => exact Or.inr (Or.inr (Or.inr (Or.inl ⟨rfl, rfl⟩)))
  | 4, _ => exact Or.inr (Or.inr (Or.inr (Or.inr ⟨rfl, rfl⟩)))
set_option maxHeartbeats 2000000 in
theorem j_H_late {D : va_G} {aI aB : ClassId} {H0 H H2 : Heap} {io : Nat → Nat} {Lv : j_L} {K0 M M2 : j_M} (hH : j_H D aI aB H0 io Lv K0 M H) (h16 : Lv 16 0 0) {n b kf : Nat} {off : Nat → Nat} {kd : Nat → Nat × Nat} (hbk : l_bk kf b n) (hsz : H2.size = H.size + n) (hkeep : ∀ q, q < H.size → q ≠ io 0 → H2[q]? = H[q]?) (hflag : M 0 kf = 0) (hinj : ∀ r r', r < n → r' < n → off r = off r' → r = r')
    (hM0 : ∀ j, M2 0 j = if j = kf then 1 else M 0 j) (hMo : ∀ x, x ≠ 0 → (x < b ∨ b + n ≤ x) → M2 x = M x) (hkd0 : j_fs 6 kf = some ((kd 0).1, (kd 0).2, b, true)) (hkd : ∀ r, r < n → l_ok D aI (l_io io b n H.size off) M2 b n kd H2 r)
    (h2c : t_OB (io 0) (D.1 6) 5 (D.2 6) H2 (updV (j_fv io M 6 0) kf (.ref (H.size + off 0)))) :
    j_H D aI aB H0 (l_io io b n H.size off) (l_Lv Lv b n kd) K0 M2 H2 ∧ j_ext io Lv (l_io io b n H.size off) (l_Lv Lv b n kd) := by
  obtain ⟨g1, g2, g3, g4, g5, g6⟩ := hH
  have hb0 : 0 < b ∧ 0 < n := by rcases hbk with h | h | h <;> omega
  have hfresh : ∀ k l a, Lv k l a → ¬ (b ≤ a ∧ a < b + n) := fun k l a h hh => by
    obtain ⟨-, h1, h2, h3⟩ := g6 k l a h
    rcases hbk with ⟨rfl, rfl, rfl⟩ | ⟨rfl, rfl, rfl⟩ | ⟨rfl, rfl, rfl⟩
    · exact h1 (by omega) (by omega) hflag
    · exact h2 (by omega) (by omega) hflag
    · exact h3 (by omega) (by omega) hflag
  have hio : ∀ k l a, Lv k l a → l_io io b n H.size off a = io a := fun k l a h => by
    unfold l_io; rw [if_neg (hfresh k l a h)]
  have hlt : ∀ k l a, Lv k l a → (k < 3 ∨ 10 ≤ k) → io a < H.size ∧ H0.size ≤ io a := fun k l a h hk => by
    have hk0 := (g6 k l a h).1
    obtain ⟨o1, o2, -, o4⟩ := g5 k l a h
    by_cases e1 : k = 1
    · obtain ⟨q1, q2⟩ := o1 e1
      exact ⟨(Array.getElem?_eq_some_iff.mp q1).1, q2⟩
    · by_cases e2 : k = 2
      · obtain ⟨q1, q2⟩ := o2 e2
        exact ⟨(Array.getElem?_eq_some_iff.mp q1).1, q2⟩
      · obtain ⟨r, -, ⟨cell, q1, -⟩, q2, -⟩ := o4 (k - 10) (by omega)
        exact ⟨(Array.getElem?_eq_some_iff.mp q1).1, q2⟩
  have hz0 := hlt 16 0 0 h16 (Or.inr (by omega))
  have hnew : ∀ a, b ≤ a → a < b + n → l_io io b n H.size off a = H.size + off (a - b) := fun a h1 h2 => by
    unfold l_io; rw [if_pos ⟨h1, h2⟩]
  have hkk : ∀ r, r < n → (kd r).1 = 1 ∨ 10 ≤ (kd r).1 := fun r hr => by
    rcases hkd r hr with ⟨l, e, -⟩ | ⟨ci, q, e, -⟩
    · rw [e]; exact Or.inl rfl
    · rw [e]; exact Or.inr (by show 10 ≤ 10 + ci; omega)
  refine ⟨⟨by omega, fun q hq => ?_, ?_, ?_, ?_, ?_⟩, ?_, ?_⟩
  · rw [hkeep q (by omega) (by omega)]; exact g2 q hq
  · intro k l a k' l' a' h h' hk hk' e
    rcases h with h | ⟨x1, x2, x3⟩ <;> rcases h' with h' | ⟨x1', x2', x3'⟩
    · rw [hio _ _ _ h, hio _ _ _ h'] at e
      exact g3 k l a k' l' a' h h' hk hk' e
    · rw [hio _ _ _ h, hnew a' x1' x2'] at e
      have := hlt k l a h hk; omega
    · rw [hio _ _ _ h', hnew a x1 x2] at e
      have := hlt k' l' a' h' hk'; omega
    · rw [hnew a x1 x2, hnew a' x1' x2'] at e
      have e9 := hinj (a - b) (a' - b) (by omega) (by omega) (by omega)
      have ea : a = a' := by omega
      subst ea
      have := x3.symm.trans x3'
      injection this with i1 i2
      exact ⟨rfl, i1, i2⟩
  · intro k l h
    rcases h with h | ⟨x1, -, -⟩
    · exact g4 k l h
    · omega
  · intro k l a h
    rcases h with h | ⟨x1, x2, x3⟩
    · by_cases ha : a = 0
      · subst ha
        have hk16 := g4 k l h
        subst hk16
        refine ⟨by omega, by omega, ⟨by omega, by omega⟩, fun ci hci => ?_⟩
        have hci6 : ci = 6 := by omega
        subst hci6
        obtain ⟨r, hr1, -, hr3, hr4⟩ := (g5 16 l 0 h).2.2.2 6 rfl
        have hr : r = (RX11, TX11, 5) := Option.some.inj (hr1.symm.trans rfl)
        subst hr
        refine ⟨_, rfl, ?_, by rw [hio _ _ _ h]; exact hr3, ?_⟩
        · rw [hio _ _ _ h]
          refine h2c.to fun f hf => ?_
          by_cases hfk : f = kf
          · subst hfk
            simp only [updV, if_true]
            unfold j_fv
            rw [hkd0, hM0]
            simp only [if_true]
            rw [if_neg (fun h9 => absurd h9.2 (by decide))]
            have := hnew b (Nat.le_refl _) (by omega)
            rw [Nat.sub_self] at this
            simp only [Nat.zero_add, this]
          · simp only [updV, if_neg hfk]
            unfold j_fv
            rw [hM0, if_neg hfk]
            have hne : ∀ id : Nat, ¬ (b ≤ id ∧ id < b + n) → l_io io b n H.size off id = io id := fun id hid => by unfold l_io; rw [if_neg hid]
            have hf5 : f < 5 := hf
            rcases j_fs6 hf5 with ⟨ef, e⟩ | ⟨ef, e⟩ | ⟨ef, e⟩ | ⟨ef, e⟩ | ⟨ef, e⟩ <;> rw [e] <;> simp only [] <;> rw [hne] <;> (rcases hbk with ⟨e1, e2, e3⟩ | ⟨e1, e2, e3⟩ | ⟨e1, e2, e3⟩ <;> omega)
        · intro f hf g hg hh
          by_cases hfk : f = kf
          · subst hfk
            rw [hkd0] at hg
            cases hg
            exact Or.inr ⟨by show b ≤ 0 + b; omega, by show 0 + b < b + n; omega, by show kd (0 + b - b) = _; simp⟩
          · rw [hM0, if_neg hfk] at hh
            exact Or.inl (hr4 f hf g hg hh)
      · have hM : M2 a = M a := hMo a ha (by have := hfresh k l a h; omega)
        obtain ⟨o1, o2, o3, o4⟩ := g5 k l a h
        have hcell : (k < 3 ∨ 10 ≤ k) → H2[io a]? = H[io a]? := fun hk => by
          have h9 := hlt k l a h hk
          rw [hkeep _ h9.1 (fun e => ha (g3 k l a 16 0 0 h h16 hk (Or.inr (by omega)) e).1)]
        refine ⟨fun e => ?_, fun e => ?_, ?_, fun ci e => ?_⟩
        · rw [hio _ _ _ h, hcell (Or.inl (by omega)), hM]; exact o1 e
        · rw [hio _ _ _ h, hcell (Or.inl (by omega)), hM]; exact o2 e
        · rw [hio _ _ _ h, hM]; exact o3
        · obtain ⟨r, q1, q2, q3, q4⟩ := o4 ci e
          refine ⟨r, q1, ?_, by rw [hio _ _ _ h]; exact q3, fun f hf g hg hh => Or.inl (q4 f hf g hg (by rw [hM] at hh; exact hh))⟩
          rw [hio _ _ _ h]
          refine (q2.kept (hcell (Or.inr (by omega)))).to fun f hf => ?_
          unfold j_fv
          rw [hM]
          cases hg : j_fs ci f with
          | none => rfl
          | some g =>
            simp only []
            by_cases hnl : g.2.2.2 = true ∧ M a f = 0
            · rw [if_pos hnl, if_pos hnl]
            · rw [if_neg hnl, if_neg hnl]
              have hlv := q4 f hf g hg (by
                by_cases h9 : g.2.2.2 = false
                · exact Or.inl h9
                · exact Or.inr fun h8 => hnl ⟨by simpa using h9, h8⟩)
              rw [hio _ _ _ hlv]
    · obtain ⟨r, rfl⟩ : ∃ r, a = b + r := ⟨a - b, by omega⟩
      rw [Nat.add_sub_cancel_left] at x3
      have hrn : r < n := by omega
      have hai : l_io io b n H.size off (b + r) = H.size + off r := by rw [hnew _ x1 x2, Nat.add_sub_cancel_left]
      rcases hkd r hrn with ⟨l', e1, e2⟩ | ⟨ci, q, e1, e2, e3, e4⟩
      · rw [e1] at x3
        cases x3
        exact ⟨fun _ => ⟨e2, by omega⟩, by omega, ⟨by omega, by omega⟩, fun ci => by omega⟩
      · rw [e1] at x3
        cases x3
        refine ⟨by omega, by omega, ⟨by omega, by omega⟩, fun ci' e' => ?_⟩
        have : ci' = ci := by omega
        subst this
        refine ⟨q, e2, e3, by omega, fun f hf g hg _ => ?_⟩
        obtain ⟨f1, f2, f3⟩ := e4 f hf g hg
        exact Or.inr ⟨by omega, by omega, by rw [show b + r + g.2.2.1 - b = r + g.2.2.1 by omega]; exact f3⟩
  · intro k l a h
    rcases h with h | ⟨x1, x2, x3⟩
    · obtain ⟨h0, h1, h2, h3⟩ := g6 k l a h
      refine ⟨h0, fun y1 y2 => ?_, fun y1 y2 => ?_, fun y1 y2 => ?_⟩ <;> rw [hM0] <;> split
      · decide
      · exact h1 y1 y2
      · decide
      · exact h2 y1 y2
      · decide
      · exact h3 y1 y2
    · have hk := hkk (a - b) (by omega)
      rw [x3] at hk
      refine ⟨by rcases hk with h | h <;> (simp only [] at h; omega), fun y1 y2 => ?_, fun y1 y2 => ?_, fun y1 y2 => ?_⟩ <;> (rw [hM0, if_pos (by rcases hbk with ⟨rfl, rfl, rfl⟩ | ⟨rfl, rfl, rfl⟩ | ⟨rfl, rfl, rfl⟩ <;> omega)]; decide)
  · exact fun k l a h => ⟨Or.inl h, hio k l a h⟩
  · intro k l a h1 h2 h
    rcases h with h | ⟨x1, x2, x3⟩
    · exact h
    · have hk := hkk (a - b) (by omega)
      rw [x3] at hk
      simp only [] at hk
      omega
theorem l_cell {H H2 : Heap} {n i a len : Nat} {P : List (Nat × (Cell → Prop))} {aI : ClassId} {f : Nat → Int32} (hB : hb H H2 n P) (hi : P[i]? = some (a, n_ar aI len f)) : H2[a]? = some (arrV aI len (fun j => .int (f j))) := by
  obtain ⟨c, hc, hs⟩ := hB.2.2.1 _ (List.mem_of_getElem? hi)
  have hs : c = arrV aI len (fun j => .int (f j)) := hs
  rw [← hs]; exact hc
theorem l_obj {H H2 : Heap} {n i a ci N : Nat} {P : List (Nat × (Cell → Prop))} {D : va_G} {V V' : Nat → Value} (hB : hb H H2 n P) (hi : P[i]? = some (a, n_at D ci N V)) (hV : ∀ k, k < N → V k = V' k) : t_OB a (D.1 ci) N (D.2 ci) H2 V' := by
  obtain ⟨c, hc, h1, h2, h3⟩ := hB.2.2.1 _ (List.mem_of_getElem? hi)
  exact ⟨c, hc, h1, h2, fun k hk => by rw [← hV k hk]; exact h3 k hk⟩
/-- what a new Caches object (with its Log) of id t holds -/
def ini_c (t x j : Nat) : Int32 := if x = t then (if j = 9 then 3 else if j = 10 then 8 else if j = 11 then 4 else if j = 13 then 6 else 0) else if x = t + 1 then (if j < 8 then 56 else 0) else if x = t + 3 then -1 else 0
def al_kept (M : j_M) : j_M := fun x j => if x = 0 then (if j = 2 then 1 else M x j) else if 40 ≤ x ∧ x < 67 then ini_c 41 x j else M x j
def al_thought (M : j_M) : j_M := fun x j => if x = 0 then (if j = 3 then 1 else M x j) else if 70 ≤ x ∧ x < 90 then ini_c 70 x j else M x j
def al_walker (M : j_M) : j_M := fun x j => if x = 0 then (if j = 4 then 1 else M x j) else if 100 ≤ x ∧ x < 111 then 0 else M x j
def g0 {ρ : Type} (v : Int32) (X : Option ρ) : Option ρ := if v = 0 then X else none
theorem fRX11_338 : j_F RX11 338 6 2 := ⟨RX11, TX11, 5, rfl, by decide, ws_in6, j_in 394 (by decide +kernel) (by decide +kernel)⟩
theorem fp_6_2 : j_FP 6 2 (.object "CountedTokens$Machine") := ⟨RX11, TX11, 5, tyX11, rfl, tyX11_ok, nmX11, rfl, by decide +kernel⟩
def l_off_kept (r : Nat) : Nat := [0, 13, 14, 15, 16, 17, 18, 19, 20, 1, 2, 3, 4, 5, 6, 7, 8, 9, 10, 11, 12, 21, 22, 23, 24, 25, 26].getD r 0
def l_kd_kept (r : Nat) : Nat × Nat := [(12, 0), (10, 0), (1, 112), (1, 256), (1, 48), (1, 48), (1, 6), (1, 6), (1, 6), (11, 0), (1, 100), (1, 49), (1, 49), (1, 49), (1, 360), (1, 6), (1, 6), (1, 6), (1, 6), (1, 6), (1, 6), (14, 0), (1, 1200), (1, 6), (1, 6), (1, 6), (1, 24)].getD r (0, 0)
theorem dX11_image_12 : decode cX11_image 12 = .ok (.new 7, 3) := by decide +kernel
theorem dX11_image_15 : decode cX11_image 15 = .ok (.dup, 1) := by decide +kernel
theorem dX11_image_16 : decode cX11_image 16 = .ok (.invokespecial 9, 3) := by decide +kernel
theorem dX11_image_19 : decode cX11_image 19 = .ok (.putfield 338, 3) := by decide +kernel
set_option maxRecDepth 100000 in
set_option maxHeartbeats 4000000 in
theorem K_new_kept {ll : List (Nat × j_V)} {M : j_M} {fr lo : Nat} {XM : j_M → Option (Int32 × j_M)} (hfr : 5 ≤ fr) (hlo9 : 160 ≤ lo) (h : ∀ M1, J yX11_image cX11_image 2 (some .boolean) fr lo j_ei 22 ll [] M1 (XM M1)) : J yX11_image cX11_image 2 (some .boolean) fr lo j_ei 12 ll [.inr (16, 0, 0)] M (g0 (M 0 2) (oml (al_kept M) XM)) := by
  intro r hr
  have hflag : M 0 2 = 0 := by
    by_cases e : M 0 2 = 0
    · exact e
    · unfold g0 at hr; rw [if_neg e] at hr; cases hr
  have hr : XM (al_kept M) = some r := by
    unfold g0 at hr; rw [if_pos hflag] at hr; exact hr
  have hcc : j_cc (al_kept M) = j_cc M + 27 := by simp [j_cc, al_kept, hflag] <;> omega
  have hcs : j_cs (al_kept M) = j_cs M + 2408 := by simp [j_cs, al_kept, hflag] <;> omega
  have hm := (h (al_kept M) r hr).1
  have hm1 := hm.1
  have hm2 := hm.2
  refine ⟨⟨by omega, by omega⟩, ?_⟩
  intro p l e s m args below meth c D aI aB H0 io Lv K0 mc ms Hb locs cells slots la cx hS hH hl hll hst hlo h1 h2
  have h16 : Lv 16 0 0 := j_live_h hst (show (16 : Nat) ≠ 0 by decide)
  rw [List.map_cons, j_sv (by decide)]
  obtain ⟨r9, hr9, ⟨c9, hc9, hc91, hc92, hc93⟩, hz0, -⟩ := (hH.2.2.2.2.1 16 0 0 h16).2.2.2 6 rfl
  have hr9 : r9 = (RX11, TX11, 5) := Option.some.inj (hr9.symm.trans rfl)
  subst hr9
  have hN := hS.2.2.2.2.2.2.2.2.2.2.1
  have hz9 : ∀ {k : Nat}, H0.size ≤ Hb.size + k := fun {k} => by have := hH.1; omega
  have hsz0 : io 0 < Hb.size := (Array.getElem?_eq_some_iff.mp hc9).1
  have hB : hb Hb Hb 0 [((io 0), n_at D 6 5 (j_fv io M 6 0))] := hb.one ⟨c9, hc9, hc91, hc92, hc93⟩
  refine W.eq (g2 := F0 m 12 la [.ref (io 0)]) rfl ?_
  refine N_new cx hS.1 (C := RX6) (T := TX6) (N := 3) (ci := 2) (V := (vp_V [.null, .null, .null])) (q := 15) ws_in2 tyX6 tyX6_ok (j_in 135 (by decide +kernel) (by decide +kernel)) (j_in 136 (by decide +kernel) (by decide +kernel)) (j_in 108 (by decide +kernel) (by decide +kernel)) rfl n_def2 dX11_image_12 (show cells + 1 ≤ mc by omega) (show slots + 3 ≤ ms by omega) hB rfl (fun H hB => ?_)
  have hB : hb Hb H 1 [((io 0), n_at D 6 5 (j_fv io M 6 0)), (Hb.size + 0, n_at D 2 3 (vp_V [.null, .null, .null]))] := hB
  refine W.eq (g2 := F0 m 15 la [.ref (Hb.size + 0), .ref (io 0)]) rfl ?_
  refine lv_dup cx.1 cx.2.1 dX11_image_15 rfl ?_
  refine N_ctor cx hS.1 hN (S' := n_at D 2 3 (vp_V [.ref (Hb.size + 1), .ref (Hb.size + 13), .ref (Hb.size + 21)])) (P2 := [(Hb.size + 1, n_at D 1 15 (vp_V [.ref (Hb.size + 2), .ref (Hb.size + 3), .ref (Hb.size + 4), .ref (Hb.size + 5), .ref (Hb.size + 6), .ref (Hb.size + 7), .ref (Hb.size + 8), .ref (Hb.size + 9), .ref (Hb.size + 10), .ref (Hb.size + 11), .ref (Hb.size + 12), .int 0, .int 0, .int 0, .int 0])), (Hb.size + 2, n_ar aI 100 (fun _ => 0)), (Hb.size + 3, n_ar aI 49 (fun _ => 0)), (Hb.size + 4, n_ar aI 49 (fun _ => 0)), (Hb.size + 5, n_ar aI 49 (fun _ => 0)), (Hb.size + 6, n_ar aI 360 (fun _ => 0)), (Hb.size + 7, n_ar aI 6 (fun _ => 0)), (Hb.size + 8, n_ar aI 6 (fun _ => 0)), (Hb.size + 9, n_ar aI 6 (fun _ => 0)), (Hb.size + 10, n_ar aI 6 (fun _ => 0)), (Hb.size + 11, n_ar aI 6 (fun _ => 0)), (Hb.size + 12, n_ar aI 6 (fun _ => 0)), (Hb.size + 13, n_at D 0 15 (vp_V [.ref (Hb.size + 1), .ref (Hb.size + 14), .ref (Hb.size + 15), .ref (Hb.size + 16), .ref (Hb.size + 17), .ref (Hb.size + 18), .ref (Hb.size + 19), .ref (Hb.size + 20), .int 0, .int (3), .int (8), .int (4), .int 0, .int (6), .int 0])), (Hb.size + 14, n_ar aI 112 (fun j => if j < 8 then 56 else 0)), (Hb.size + 15, n_ar aI 256 (fun _ => 0)), (Hb.size + 16, n_ar aI 48 (fun _ => -1)), (Hb.size + 17, n_ar aI 48 (fun _ => 0)), (Hb.size + 18, n_ar aI 6 (fun _ => 0)), (Hb.size + 19, n_ar aI 6 (fun _ => 0)), (Hb.size + 20, n_ar aI 6 (fun _ => 0)), (Hb.size + 21, n_at D 4 8 (vp_V [.ref (Hb.size + 22), .ref (Hb.size + 23), .ref (Hb.size + 24), .ref (Hb.size + 25), .ref (Hb.size + 26), .int 0, .int 0, .int 0])), (Hb.size + 22, n_ar aI 1200 (fun _ => 0)), (Hb.size + 23, n_ar aI 6 (fun _ => 0)), (Hb.size + 24, n_ar aI 6 (fun _ => 0)), (Hb.size + 25, n_ar aI 6 (fun _ => 0)), (Hb.size + 26, n_ar aI 24 (fun _ => 0))]) (q := 19) 1 (c_X6_init l D aI aB H0.size (Hb.size + 0)) cb_X6_init rfl (j_in 138 (by decide +kernel) (by decide +kernel)) (Or.inl (j_in 137 (by decide +kernel) (by decide +kernel))) dX11_image_16 rfl hl.1 (Nat.le_of_ble_eq_true rfl) ⟨by show _ ≤ fr; omega, by show _ ≤ lo; omega⟩ ⟨(show cells + 1 + 26 ≤ mc by omega), (show slots + 3 + 2405 ≤ ms by omega)⟩ hB rfl hz9 rfl (by simp <;> omega) hlo rfl (fun H locs hB hlo => ?_)
  have hB : hb Hb H 27 [((io 0), n_at D 6 5 (j_fv io M 6 0)), (Hb.size + 0, n_at D 2 3 (vp_V [.ref (Hb.size + 1), .ref (Hb.size + 13), .ref (Hb.size + 21)])), (Hb.size + 1, n_at D 1 15 (vp_V [.ref (Hb.size + 2), .ref (Hb.size + 3), .ref (Hb.size + 4), .ref (Hb.size + 5), .ref (Hb.size + 6), .ref (Hb.size + 7), .ref (Hb.size + 8), .ref (Hb.size + 9), .ref (Hb.size + 10), .ref (Hb.size + 11), .ref (Hb.size + 12), .int 0, .int 0, .int 0, .int 0])), (Hb.size + 2, n_ar aI 100 (fun _ => 0)), (Hb.size + 3, n_ar aI 49 (fun _ => 0)), (Hb.size + 4, n_ar aI 49 (fun _ => 0)), (Hb.size + 5, n_ar aI 49 (fun _ => 0)), (Hb.size + 6, n_ar aI 360 (fun _ => 0)), (Hb.size + 7, n_ar aI 6 (fun _ => 0)), (Hb.size + 8, n_ar aI 6 (fun _ => 0)), (Hb.size + 9, n_ar aI 6 (fun _ => 0)), (Hb.size + 10, n_ar aI 6 (fun _ => 0)), (Hb.size + 11, n_ar aI 6 (fun _ => 0)), (Hb.size + 12, n_ar aI 6 (fun _ => 0)), (Hb.size + 13, n_at D 0 15 (vp_V [.ref (Hb.size + 1), .ref (Hb.size + 14), .ref (Hb.size + 15), .ref (Hb.size + 16), .ref (Hb.size + 17), .ref (Hb.size + 18), .ref (Hb.size + 19), .ref (Hb.size + 20), .int 0, .int (3), .int (8), .int (4), .int 0, .int (6), .int 0])), (Hb.size + 14, n_ar aI 112 (fun j => if j < 8 then 56 else 0)), (Hb.size + 15, n_ar aI 256 (fun _ => 0)), (Hb.size + 16, n_ar aI 48 (fun _ => -1)), (Hb.size + 17, n_ar aI 48 (fun _ => 0)), (Hb.size + 18, n_ar aI 6 (fun _ => 0)), (Hb.size + 19, n_ar aI 6 (fun _ => 0)), (Hb.size + 20, n_ar aI 6 (fun _ => 0)), (Hb.size + 21, n_at D 4 8 (vp_V [.ref (Hb.size + 22), .ref (Hb.size + 23), .ref (Hb.size + 24), .ref (Hb.size + 25), .ref (Hb.size + 26), .int 0, .int 0, .int 0])), (Hb.size + 22, n_ar aI 1200 (fun _ => 0)), (Hb.size + 23, n_ar aI 6 (fun _ => 0)), (Hb.size + 24, n_ar aI 6 (fun _ => 0)), (Hb.size + 25, n_ar aI 6 (fun _ => 0)), (Hb.size + 26, n_ar aI 24 (fun _ => 0))] := hB
  refine W.eq (g2 := F0 m 19 la [.ref (Hb.size + 0), .ref (io 0)]) rfl ?_
  refine N_put cx hS.1 (ci := 6) (N := 5) (V' := updV (j_fv io M 6 0) 2 (.ref (Hb.size + 0))) (q := 22) 2 0 dX11_image_19 fRX11_338 (Or.inl fp_6_2) rfl rfl rfl hB rfl hz0 hlo rfl rfl (fun H locs hB hlo => ?_)
  have hB : hb Hb H 27 [((io 0), n_at D 6 5 (updV (j_fv io M 6 0) 2 (.ref (Hb.size + 0)))), (Hb.size + 0, n_at D 2 3 (vp_V [.ref (Hb.size + 1), .ref (Hb.size + 13), .ref (Hb.size + 21)])), (Hb.size + 1, n_at D 1 15 (vp_V [.ref (Hb.size + 2), .ref (Hb.size + 3), .ref (Hb.size + 4), .ref (Hb.size + 5), .ref (Hb.size + 6), .ref (Hb.size + 7), .ref (Hb.size + 8), .ref (Hb.size + 9), .ref (Hb.size + 10), .ref (Hb.size + 11), .ref (Hb.size + 12), .int 0, .int 0, .int 0, .int 0])), (Hb.size + 2, n_ar aI 100 (fun _ => 0)), (Hb.size + 3, n_ar aI 49 (fun _ => 0)), (Hb.size + 4, n_ar aI 49 (fun _ => 0)), (Hb.size + 5, n_ar aI 49 (fun _ => 0)), (Hb.size + 6, n_ar aI 360 (fun _ => 0)), (Hb.size + 7, n_ar aI 6 (fun _ => 0)), (Hb.size + 8, n_ar aI 6 (fun _ => 0)), (Hb.size + 9, n_ar aI 6 (fun _ => 0)), (Hb.size + 10, n_ar aI 6 (fun _ => 0)), (Hb.size + 11, n_ar aI 6 (fun _ => 0)), (Hb.size + 12, n_ar aI 6 (fun _ => 0)), (Hb.size + 13, n_at D 0 15 (vp_V [.ref (Hb.size + 1), .ref (Hb.size + 14), .ref (Hb.size + 15), .ref (Hb.size + 16), .ref (Hb.size + 17), .ref (Hb.size + 18), .ref (Hb.size + 19), .ref (Hb.size + 20), .int 0, .int (3), .int (8), .int (4), .int 0, .int (6), .int 0])), (Hb.size + 14, n_ar aI 112 (fun j => if j < 8 then 56 else 0)), (Hb.size + 15, n_ar aI 256 (fun _ => 0)), (Hb.size + 16, n_ar aI 48 (fun _ => -1)), (Hb.size + 17, n_ar aI 48 (fun _ => 0)), (Hb.size + 18, n_ar aI 6 (fun _ => 0)), (Hb.size + 19, n_ar aI 6 (fun _ => 0)), (Hb.size + 20, n_ar aI 6 (fun _ => 0)), (Hb.size + 21, n_at D 4 8 (vp_V [.ref (Hb.size + 22), .ref (Hb.size + 23), .ref (Hb.size + 24), .ref (Hb.size + 25), .ref (Hb.size + 26), .int 0, .int 0, .int 0])), (Hb.size + 22, n_ar aI 1200 (fun _ => 0)), (Hb.size + 23, n_ar aI 6 (fun _ => 0)), (Hb.size + 24, n_ar aI 6 (fun _ => 0)), (Hb.size + 25, n_ar aI 6 (fun _ => 0)), (Hb.size + 26, n_ar aI 24 (fun _ => 0))] := hB
  have hkeep : ∀ q, q < Hb.size → q ≠ io 0 → H[q]? = Hb[q]? := fun q hq hq0 => hB.2.1 q hq fun x hx => by
    simp only [List.mem_cons, List.not_mem_nil, or_false] at hx
    rcases hx with rfl | rfl | rfl | rfl | rfl | rfl | rfl | rfl | rfl | rfl | rfl | rfl | rfl | rfl | rfl | rfl | rfl | rfl | rfl | rfl | rfl | rfl | rfl | rfl | rfl | rfl | rfl | rfl <;> simp only [] <;> omega
  have hkd : ∀ r, r < 27 → l_ok D aI (l_io io 40 27 Hb.size l_off_kept) (al_kept M) 40 27 l_kd_kept H r := fun r hr => by
    match r, hr with
    | 0, _ =>
      refine Or.inr ⟨2, _, rfl, rfl, l_obj (i := 1) hB rfl (fun k hk => by match k, hk with | 0, _ => rfl | 1, _ => rfl | 2, _ => rfl | k + 3, hk => exact absurd hk (by show ¬ k + 3 < 3; omega)), fun f hf => ?_⟩
      match f, hf with
      | 0, _ => intro gg hg; cases hg; exact ⟨rfl, by decide, rfl⟩
      | 1, _ => intro gg hg; cases hg; exact ⟨rfl, by decide, rfl⟩
      | 2, _ => intro gg hg; cases hg; exact ⟨rfl, by decide, rfl⟩
      | f + 3, hf => exact absurd hf (by show ¬ f + 3 < 3; omega)
    | 1, _ =>
      refine Or.inr ⟨0, _, rfl, rfl, l_obj (i := 14) hB rfl (fun k hk => by match k, hk with | 0, _ => rfl | 1, _ => rfl | 2, _ => rfl | 3, _ => rfl | 4, _ => rfl | 5, _ => rfl | 6, _ => rfl | 7, _ => rfl | 8, _ => rfl | 9, _ => rfl | 10, _ => rfl | 11, _ => rfl | 12, _ => rfl | 13, _ => rfl | 14, _ => rfl | k + 15, hk => exact absurd hk (by show ¬ k + 15 < 15; omega)), fun f hf => ?_⟩
      match f, hf with
      | 0, _ => intro gg hg; cases hg; exact ⟨rfl, by decide, rfl⟩
      | 1, _ => intro gg hg; cases hg; exact ⟨rfl, by decide, rfl⟩
      | 2, _ => intro gg hg; cases hg; exact ⟨rfl, by decide, rfl⟩
      | 3, _ => intro gg hg; cases hg; exact ⟨rfl, by decide, rfl⟩
      | 4, _ => intro gg hg; cases hg; exact ⟨rfl, by decide, rfl⟩
      | 5, _ => intro gg hg; cases hg; exact ⟨rfl, by decide, rfl⟩
      | 6, _ => intro gg hg; cases hg; exact ⟨rfl, by decide, rfl⟩
      | 7, _ => intro gg hg; cases hg; exact ⟨rfl, by decide, rfl⟩
      | 8, _ => intro gg hg; cases hg
      | 9, _ => intro gg hg; cases hg
      | 10, _ => intro gg hg; cases hg
      | 11, _ => intro gg hg; cases hg
      | 12, _ => intro gg hg; cases hg
      | 13, _ => intro gg hg; cases hg
      | 14, _ => intro gg hg; cases hg
      | f + 15, hf => exact absurd hf (by show ¬ f + 15 < 15; omega)
    | 2, _ => exact Or.inl ⟨112, rfl, l_cell (i := 15) hB rfl⟩
    | 3, _ => exact Or.inl ⟨256, rfl, l_cell (i := 16) hB rfl⟩
    | 4, _ => exact Or.inl ⟨48, rfl, l_cell (i := 17) hB rfl⟩
    | 5, _ => exact Or.inl ⟨48, rfl, l_cell (i := 18) hB rfl⟩
    | 6, _ => exact Or.inl ⟨6, rfl, l_cell (i := 19) hB rfl⟩
    | 7, _ => exact Or.inl ⟨6, rfl, l_cell (i := 20) hB rfl⟩
    | 8, _ => exact Or.inl ⟨6, rfl, l_cell (i := 21) hB rfl⟩
    | 9, _ =>
      refine Or.inr ⟨1, _, rfl, rfl, l_obj (i := 2) hB rfl (fun k hk => by match k, hk with | 0, _ => rfl | 1, _ => rfl | 2, _ => rfl | 3, _ => rfl | 4, _ => rfl | 5, _ => rfl | 6, _ => rfl | 7, _ => rfl | 8, _ => rfl | 9, _ => rfl | 10, _ => rfl | 11, _ => rfl | 12, _ => rfl | 13, _ => rfl | 14, _ => rfl | k + 15, hk => exact absurd hk (by show ¬ k + 15 < 15; omega)), fun f hf => ?_⟩
      match f, hf with
      | 0, _ => intro gg hg; cases hg; exact ⟨rfl, by decide, rfl⟩
      | 1, _ => intro gg hg; cases hg; exact ⟨rfl, by decide, rfl⟩
      | 2, _ => intro gg hg; cases hg; exact ⟨rfl, by decide, rfl⟩
      | 3, _ => intro gg hg; cases hg; exact ⟨rfl, by decide, rfl⟩
      | 4, _ => intro gg hg; cases hg; exact ⟨rfl, by decide, rfl⟩
      | 5, _ => intro gg hg; cases hg; exact ⟨rfl, by decide, rfl⟩
      | 6, _ => intro gg hg; cases hg; exact ⟨rfl, by decide, rfl⟩
      | 7, _ => intro gg hg; cases hg; exact ⟨rfl, by decide, rfl⟩
      | 8, _ => intro gg hg; cases hg; exact ⟨rfl, by decide, rfl⟩
      | 9, _ => intro gg hg; cases hg; exact ⟨rfl, by decide, rfl⟩
      | 10, _ => intro gg hg; cases hg; exact ⟨rfl, by decide, rfl⟩
      | 11, _ => intro gg hg; cases hg
      | 12, _ => intro gg hg; cases hg
      | 13, _ => intro gg hg; cases hg
      | 14, _ => intro gg hg; cases hg
      | f + 15, hf => exact absurd hf (by show ¬ f + 15 < 15; omega)
    | 10, _ => exact Or.inl ⟨100, rfl, l_cell (i := 3) hB rfl⟩
    | 11, _ => exact Or.inl ⟨49, rfl, l_cell (i := 4) hB rfl⟩
    | 12, _ => exact Or.inl ⟨49, rfl, l_cell (i := 5) hB rfl⟩
    | 13, _ => exact Or.inl ⟨49, rfl, l_cell (i := 6) hB rfl⟩
    | 14, _ => exact Or.inl ⟨360, rfl, l_cell (i := 7) hB rfl⟩
    | 15, _ => exact Or.inl ⟨6, rfl, l_cell (i := 8) hB rfl⟩
    | 16, _ => exact Or.inl ⟨6, rfl, l_cell (i := 9) hB rfl⟩
    | 17, _ => exact Or.inl ⟨6, rfl, l_cell (i := 10) hB rfl⟩
    | 18, _ => exact Or.inl ⟨6, rfl, l_cell (i := 11) hB rfl⟩
    | 19, _ => exact Or.inl ⟨6, rfl, l_cell (i := 12) hB rfl⟩
    | 20, _ => exact Or.inl ⟨6, rfl, l_cell (i := 13) hB rfl⟩
    | 21, _ =>
      refine Or.inr ⟨4, _, rfl, rfl, l_obj (i := 22) hB rfl (fun k hk => by match k, hk with | 0, _ => rfl | 1, _ => rfl | 2, _ => rfl | 3, _ => rfl | 4, _ => rfl | 5, _ => rfl | 6, _ => rfl | 7, _ => rfl | k + 8, hk => exact absurd hk (by show ¬ k + 8 < 8; omega)), fun f hf => ?_⟩
      match f, hf with
      | 0, _ => intro gg hg; cases hg; exact ⟨rfl, by decide, rfl⟩
      | 1, _ => intro gg hg; cases hg; exact ⟨rfl, by decide, rfl⟩
      | 2, _ => intro gg hg; cases hg; exact ⟨rfl, by decide, rfl⟩
      | 3, _ => intro gg hg; cases hg; exact ⟨rfl, by decide, rfl⟩
      | 4, _ => intro gg hg; cases hg; exact ⟨rfl, by decide, rfl⟩
      | 5, _ => intro gg hg; cases hg
      | 6, _ => intro gg hg; cases hg
      | 7, _ => intro gg hg; cases hg
      | f + 8, hf => exact absurd hf (by show ¬ f + 8 < 8; omega)
    | 22, _ => exact Or.inl ⟨1200, rfl, l_cell (i := 23) hB rfl⟩
    | 23, _ => exact Or.inl ⟨6, rfl, l_cell (i := 24) hB rfl⟩
    | 24, _ => exact Or.inl ⟨6, rfl, l_cell (i := 25) hB rfl⟩
    | 25, _ => exact Or.inl ⟨6, rfl, l_cell (i := 26) hB rfl⟩
    | 26, _ => exact Or.inl ⟨24, rfl, l_cell (i := 27) hB rfl⟩
    | r + 27, hr => exact absurd hr (by omega)
  have hinj0 : ∀ r, r < 27 → ∀ r', r' < 27 → l_off_kept r = l_off_kept r' → r = r' := by decide +kernel
  have hinj := fun r r' hr hr' => hinj0 r hr r' hr'
  obtain ⟨hH2, hx⟩ := j_H_late (M2 := al_kept M) (off := l_off_kept) (kd := l_kd_kept) hH h16 (show l_bk 2 40 27 by unfold l_bk; omega) hB.1 hkeep hflag hinj (fun j => by simp [al_kept]) (fun x hx hxr => by funext j; unfold al_kept; rw [if_neg hx, if_neg (by omega)]) rfl hkd (l_obj (i := 0) hB rfl (fun _ _ => rfl))
  have hst9 : ∀ x ∈ ([] : List j_V), j_live (l_Lv Lv 40 27 l_kd_kept) x := fun x hx => by cases hx
  refine W.widen (k := cells + 27) (n := slots + 2408) (by omega) (by omega) ?_
  refine fun T hT XX => ?_
  obtain ⟨t, a1, o, b1, b2, ⟨io2, Lv2, x1, x2, x3, x4⟩, b3⟩ := (h (al_kept M) r hr).2 p l e s m args below meth c D aI aB H0 _ _ K0 mc ms H locs (cells + 27) (slots + 2408) la cx (hS.ext hx) hH2 (by rw [j_lm_ext hx hll]; exact hl) (fun q hq => j_live_ext hx (hll q hq)) hst9 hlo (by omega) (by omega) T hT XX
  exact ⟨t, a1, o, b1, b2, ⟨io2, Lv2, hx.trans x1, x2, x3, x4⟩, b3⟩
theorem n_def5 : ∀ j, j < 17 → defaultValue (tyX10 j) = vp_V [.null, .null, .null, .null, .null, .null, .null, .null, .null, .null, .int 0, .int 0, .int 0, .int 0, .int 0, .int 0, .int 0] j := by decide +kernel
theorem cb_X10_init : j_CB yX10_init cX10_init 1 none 0 := ⟨by decide +kernel, j_in 964 (by decide +kernel) (by decide +kernel), j_in 126 (by decide +kernel) (by decide +kernel), by decide +kernel, by decide +kernel, by decide +kernel⟩
theorem fRX11_260 : j_F RX11 260 6 4 := ⟨RX11, TX11, 5, rfl, by decide, ws_in6, j_in 396 (by decide +kernel) (by decide +kernel)⟩
theorem fp_6_4 : j_FP 6 4 (.object "CountedTokens$Walk") := ⟨RX11, TX11, 5, tyX11, rfl, tyX11_ok, nmX11, rfl, by decide +kernel⟩
def l_off_walker (r : Nat) : Nat := [0, 1, 2, 3, 4, 5, 6, 7, 8, 9, 10].getD r 0
def l_kd_walker (r : Nat) : Nat × Nat := [(15, 0), (1, 5), (1, 28000), (1, 6000), (1, 250), (1, 250), (1, 1024), (1, 6000), (1, 250), (1, 250), (1, 250)].getD r (0, 0)
theorem dX11_walk_23 : decode cX11_walk 23 = .ok (.new 264, 3) := by decide +kernel
theorem dX11_walk_26 : decode cX11_walk 26 = .ok (.dup, 1) := by decide +kernel
theorem dX11_walk_27 : decode cX11_walk 27 = .ok (.invokespecial 266, 3) := by decide +kernel
theorem dX11_walk_30 : decode cX11_walk 30 = .ok (.putfield 260, 3) := by decide +kernel
set_option maxRecDepth 100000 in
set_option maxHeartbeats 4000000 in
theorem K_new_walker {ll : List (Nat × j_V)} {M : j_M} {fr lo : Nat} {XM : j_M → Option (Int32 × j_M)} (hfr : 5 ≤ fr) (hlo9 : 160 ≤ lo) (h : ∀ M1, J yX11_walk cX11_walk 2 (some .int) fr lo j_ei 33 ll [] M1 (XM M1)) : J yX11_walk cX11_walk 2 (some .int) fr lo j_ei 23 ll [.inr (16, 0, 0)] M (g0 (M 0 4) (oml (al_walker M) XM)) := by
  intro r hr
  have hflag : M 0 4 = 0 := by
    by_cases e : M 0 4 = 0
    · exact e
    · unfold g0 at hr; rw [if_neg e] at hr; cases hr
  have hr : XM (al_walker M) = some r := by
    unfold g0 at hr; rw [if_pos hflag] at hr; exact hr
  have hcc : j_cc (al_walker M) = j_cc M + 11 := by simp [j_cc, al_walker, hflag] <;> omega
  have hcs : j_cs (al_walker M) = j_cs M + 42296 := by simp [j_cs, al_walker, hflag] <;> omega
  have hm := (h (al_walker M) r hr).1
  have hm1 := hm.1
  have hm2 := hm.2
  refine ⟨⟨by omega, by omega⟩, ?_⟩
  intro p l e s m args below meth c D aI aB H0 io Lv K0 mc ms Hb locs cells slots la cx hS hH hl hll hst hlo h1 h2
  have h16 : Lv 16 0 0 := j_live_h hst (show (16 : Nat) ≠ 0 by decide)
  rw [List.map_cons, j_sv (by decide)]
  obtain ⟨r9, hr9, ⟨c9, hc9, hc91, hc92, hc93⟩, hz0, -⟩ := (hH.2.2.2.2.1 16 0 0 h16).2.2.2 6 rfl
  have hr9 : r9 = (RX11, TX11, 5) := Option.some.inj (hr9.symm.trans rfl)
  subst hr9
  have hN := hS.2.2.2.2.2.2.2.2.2.2.1
  have hz9 : ∀ {k : Nat}, H0.size ≤ Hb.size + k := fun {k} => by have := hH.1; omega
  have hsz0 : io 0 < Hb.size := (Array.getElem?_eq_some_iff.mp hc9).1
  have hB : hb Hb Hb 0 [((io 0), n_at D 6 5 (j_fv io M 6 0))] := hb.one ⟨c9, hc9, hc91, hc92, hc93⟩
  refine W.eq (g2 := F0 m 23 la [.ref (io 0)]) rfl ?_
  refine N_new cx hS.1 (C := RX10) (T := TX10) (N := 17) (ci := 5) (V := (vp_V [.null, .null, .null, .null, .null, .null, .null, .null, .null, .null, .int 0, .int 0, .int 0, .int 0, .int 0, .int 0, .int 0])) (q := 26) ws_in5 tyX10 tyX10_ok (j_in 960 (by decide +kernel) (by decide +kernel)) (j_in 961 (by decide +kernel) (by decide +kernel)) (j_in 126 (by decide +kernel) (by decide +kernel)) rfl n_def5 dX11_walk_23 (show cells + 1 ≤ mc by omega) (show slots + 17 ≤ ms by omega) hB rfl (fun H hB => ?_)
  have hB : hb Hb H 1 [((io 0), n_at D 6 5 (j_fv io M 6 0)), (Hb.size + 0, n_at D 5 17 (vp_V [.null, .null, .null, .null, .null, .null, .null, .null, .null, .null, .int 0, .int 0, .int 0, .int 0, .int 0, .int 0, .int 0]))] := hB
  refine W.eq (g2 := F0 m 26 la [.ref (Hb.size + 0), .ref (io 0)]) rfl ?_
  refine lv_dup cx.1 cx.2.1 dX11_walk_26 rfl ?_
  refine N_ctor cx hS.1 hN (S' := n_at D 5 17 (vp_V [.ref (Hb.size + 1), .ref (Hb.size + 2), .ref (Hb.size + 3), .ref (Hb.size + 4), .ref (Hb.size + 5), .ref (Hb.size + 6), .ref (Hb.size + 7), .ref (Hb.size + 8), .ref (Hb.size + 9), .ref (Hb.size + 10), .int 0, .int 0, .int 0, .int 0, .int 0, .int 0, .int 0])) (P2 := [(Hb.size + 1, n_ar aI 5 (fun _ => 0)), (Hb.size + 2, n_ar aI 28000 (fun _ => 0)), (Hb.size + 3, n_ar aI 6000 (fun _ => 0)), (Hb.size + 4, n_ar aI 250 (fun _ => 0)), (Hb.size + 5, n_ar aI 250 (fun _ => 0)), (Hb.size + 6, n_ar aI 1024 (fun _ => 0)), (Hb.size + 7, n_ar aI 6000 (fun _ => 0)), (Hb.size + 8, n_ar aI 250 (fun _ => 0)), (Hb.size + 9, n_ar aI 250 (fun _ => 0)), (Hb.size + 10, n_ar aI 250 (fun _ => 0))]) (q := 30) 1 (c_X10_init l D aI aB H0.size (Hb.size + 0)) cb_X10_init rfl (j_in 963 (by decide +kernel) (by decide +kernel)) (Or.inr ⟨RX11, hN _ (List.mem_of_getElem? (i := 5) rfl)⟩) dX11_walk_27 rfl hl.1 (Nat.le_of_ble_eq_true rfl) ⟨by show _ ≤ fr; omega, by show _ ≤ lo; omega⟩ ⟨(show cells + 1 + 10 ≤ mc by omega), (show slots + 17 + 42279 ≤ ms by omega)⟩ hB rfl hz9 rfl (by simp <;> omega) hlo rfl (fun H locs hB hlo => ?_)
  have hB : hb Hb H 11 [((io 0), n_at D 6 5 (j_fv io M 6 0)), (Hb.size + 0, n_at D 5 17 (vp_V [.ref (Hb.size + 1), .ref (Hb.size + 2), .ref (Hb.size + 3), .ref (Hb.size + 4), .ref (Hb.size + 5), .ref (Hb.size + 6), .ref (Hb.size + 7), .ref (Hb.size + 8), .ref (Hb.size + 9), .ref (Hb.size + 10), .int 0, .int 0, .int 0, .int 0, .int 0, .int 0, .int 0])), (Hb.size + 1, n_ar aI 5 (fun _ => 0)), (Hb.size + 2, n_ar aI 28000 (fun _ => 0)), (Hb.size + 3, n_ar aI 6000 (fun _ => 0)), (Hb.size + 4, n_ar aI 250 (fun _ => 0)), (Hb.size + 5, n_ar aI 250 (fun _ => 0)), (Hb.size + 6, n_ar aI 1024 (fun _ => 0)), (Hb.size + 7, n_ar aI 6000 (fun _ => 0)), (Hb.size + 8, n_ar aI 250 (fun _ => 0)), (Hb.size + 9, n_ar aI 250 (fun _ => 0)), (Hb.size + 10, n_ar aI 250 (fun _ => 0))] := hB
  refine W.eq (g2 := F0 m 30 la [.ref (Hb.size + 0), .ref (io 0)]) rfl ?_
  refine N_put cx hS.1 (ci := 6) (N := 5) (V' := updV (j_fv io M 6 0) 4 (.ref (Hb.size + 0))) (q := 33) 4 0 dX11_walk_30 fRX11_260 (Or.inl fp_6_4) rfl rfl rfl hB rfl hz0 hlo rfl rfl (fun H locs hB hlo => ?_)
  have hB : hb Hb H 11 [((io 0), n_at D 6 5 (updV (j_fv io M 6 0) 4 (.ref (Hb.size + 0)))), (Hb.size + 0, n_at D 5 17 (vp_V [.ref (Hb.size + 1), .ref (Hb.size + 2), .ref (Hb.size + 3), .ref (Hb.size + 4), .ref (Hb.size + 5), .ref (Hb.size + 6), .ref (Hb.size + 7), .ref (Hb.size + 8), .ref (Hb.size + 9), .ref (Hb.size + 10), .int 0, .int 0, .int 0, .int 0, .int 0, .int 0, .int 0])), (Hb.size + 1, n_ar aI 5 (fun _ => 0)), (Hb.size + 2, n_ar aI 28000 (fun _ => 0)), (Hb.size + 3, n_ar aI 6000 (fun _ => 0)), (Hb.size + 4, n_ar aI 250 (fun _ => 0)), (Hb.size + 5, n_ar aI 250 (fun _ => 0)), (Hb.size + 6, n_ar aI 1024 (fun _ => 0)), (Hb.size + 7, n_ar aI 6000 (fun _ => 0)), (Hb.size + 8, n_ar aI 250 (fun _ => 0)), (Hb.size + 9, n_ar aI 250 (fun _ => 0)), (Hb.size + 10, n_ar aI 250 (fun _ => 0))] := hB
  have hkeep : ∀ q, q < Hb.size → q ≠ io 0 → H[q]? = Hb[q]? := fun q hq hq0 => hB.2.1 q hq fun x hx => by
    simp only [List.mem_cons, List.not_mem_nil, or_false] at hx
    rcases hx with rfl | rfl | rfl | rfl | rfl | rfl | rfl | rfl | rfl | rfl | rfl | rfl <;> simp only [] <;> omega
  have hkd : ∀ r, r < 11 → l_ok D aI (l_io io 100 11 Hb.size l_off_walker) (al_walker M) 100 11 l_kd_walker H r := fun r hr => by
    match r, hr with
    | 0, _ =>
      refine Or.inr ⟨5, _, rfl, rfl, l_obj (i := 1) hB rfl (fun k hk => by match k, hk with | 0, _ => rfl | 1, _ => rfl | 2, _ => rfl | 3, _ => rfl | 4, _ => rfl | 5, _ => rfl | 6, _ => rfl | 7, _ => rfl | 8, _ => rfl | 9, _ => rfl | 10, _ => rfl | 11, _ => rfl | 12, _ => rfl | 13, _ => rfl | 14, _ => rfl | 15, _ => rfl | 16, _ => rfl | k + 17, hk => exact absurd hk (by show ¬ k + 17 < 17; omega)), fun f hf => ?_⟩
      match f, hf with
      | 0, _ => intro gg hg; cases hg; exact ⟨rfl, by decide, rfl⟩
      | 1, _ => intro gg hg; cases hg; exact ⟨rfl, by decide, rfl⟩
      | 2, _ => intro gg hg; cases hg; exact ⟨rfl, by decide, rfl⟩
      | 3, _ => intro gg hg; cases hg; exact ⟨rfl, by decide, rfl⟩
      | 4, _ => intro gg hg; cases hg; exact ⟨rfl, by decide, rfl⟩
      | 5, _ => intro gg hg; cases hg; exact ⟨rfl, by decide, rfl⟩
      | 6, _ => intro gg hg; cases hg; exact ⟨rfl, by decide, rfl⟩
      | 7, _ => intro gg hg; cases hg; exact ⟨rfl, by decide, rfl⟩
      | 8, _ => intro gg hg; cases hg; exact ⟨rfl, by decide, rfl⟩
      | 9, _ => intro gg hg; cases hg; exact ⟨rfl, by decide, rfl⟩
      | 10, _ => intro gg hg; cases hg
      | 11, _ => intro gg hg; cases hg
      | 12, _ => intro gg hg; cases hg
      | 13, _ => intro gg hg; cases hg
      | 14, _ => intro gg hg; cases hg
      | 15, _ => intro gg hg; cases hg
      | 16, _ => intro gg hg; cases hg
      | f + 17, hf => exact absurd hf (by show ¬ f + 17 < 17; omega)
    | 1, _ => exact Or.inl ⟨5, rfl, l_cell (i := 2) hB rfl⟩
    | 2, _ => exact Or.inl ⟨28000, rfl, l_cell (i := 3) hB rfl⟩
    | 3, _ => exact Or.inl ⟨6000, rfl, l_cell (i := 4) hB rfl⟩
    | 4, _ => exact Or.inl ⟨250, rfl, l_cell (i := 5) hB rfl⟩
    | 5, _ => exact Or.inl ⟨250, rfl, l_cell (i := 6) hB rfl⟩
    | 6, _ => exact Or.inl ⟨1024, rfl, l_cell (i := 7) hB rfl⟩
    | 7, _ => exact Or.inl ⟨6000, rfl, l_cell (i := 8) hB rfl⟩
    | 8, _ => exact Or.inl ⟨250, rfl, l_cell (i := 9) hB rfl⟩
    | 9, _ => exact Or.inl ⟨250, rfl, l_cell (i := 10) hB rfl⟩
    | 10, _ => exact Or.inl ⟨250, rfl, l_cell (i := 11) hB rfl⟩
    | r + 11, hr => exact absurd hr (by omega)
  have hinj0 : ∀ r, r < 11 → ∀ r', r' < 11 → l_off_walker r = l_off_walker r' → r = r' := by decide +kernel
  have hinj := fun r r' hr hr' => hinj0 r hr r' hr'
  obtain ⟨hH2, hx⟩ := j_H_late (M2 := al_walker M) (off := l_off_walker) (kd := l_kd_walker) hH h16 (show l_bk 4 100 11 by unfold l_bk; omega) hB.1 hkeep hflag hinj (fun j => by simp [al_walker]) (fun x hx hxr => by funext j; unfold al_walker; rw [if_neg hx, if_neg (by omega)]) rfl hkd (l_obj (i := 0) hB rfl (fun _ _ => rfl))
  have hst9 : ∀ x ∈ ([] : List j_V), j_live (l_Lv Lv 100 11 l_kd_walker) x := fun x hx => by cases hx
  refine W.widen (k := cells + 11) (n := slots + 42296) (by omega) (by omega) ?_
  refine fun T hT XX => ?_
  obtain ⟨t, a1, o, b1, b2, ⟨io2, Lv2, x1, x2, x3, x4⟩, b3⟩ := (h (al_walker M) r hr).2 p l e s m args below meth c D aI aB H0 _ _ K0 mc ms H locs (cells + 11) (slots + 42296) la cx (hS.ext hx) hH2 (by rw [j_lm_ext hx hll]; exact hl) (fun q hq => j_live_ext hx (hll q hq)) hst9 hlo (by omega) (by omega) T hT XX
  exact ⟨t, a1, o, b1, b2, ⟨io2, Lv2, hx.trans x1, x2, x3, x4⟩, b3⟩
theorem fRX11_257 : j_F RX11 257 6 3 := ⟨RX11, TX11, 5, rfl, by decide, ws_in6, j_in 395 (by decide +kernel) (by decide +kernel)⟩
theorem fp_6_3 : j_FP 6 3 (.object "CountedTokens$Caches") := ⟨RX11, TX11, 5, tyX11, rfl, tyX11_ok, nmX11, rfl, by decide +kernel⟩
def l_off_thought (r : Nat) : Nat := [0, 13, 14, 15, 16, 17, 18, 19, 1, 2, 3, 4, 5, 6, 7, 8, 9, 10, 11, 12].getD r 0
def l_kd_thought (r : Nat) : Nat × Nat := [(10, 0), (1, 112), (1, 256), (1, 48), (1, 48), (1, 6), (1, 6), (1, 6), (11, 0), (1, 100), (1, 49), (1, 49), (1, 49), (1, 360), (1, 6), (1, 6), (1, 6), (1, 6), (1, 6), (1, 6)].getD r (0, 0)
theorem dX11_prepareThought_8 : decode cX11_prepareThought 8 = .ok (.new 38, 3) := by decide +kernel
theorem dX11_prepareThought_11 : decode cX11_prepareThought 11 = .ok (.dup, 1) := by decide +kernel
theorem dX11_prepareThought_12 : decode cX11_prepareThought 12 = .ok (.new 238, 3) := by decide +kernel
theorem dX11_prepareThought_15 : decode cX11_prepareThought 15 = .ok (.dup, 1) := by decide +kernel
theorem dX11_prepareThought_16 : decode cX11_prepareThought 16 = .ok (.invokespecial 350, 3) := by decide +kernel
theorem dX11_prepareThought_19 : decode cX11_prepareThought 19 = .ok (.invokespecial 351, 3) := by decide +kernel
theorem dX11_prepareThought_22 : decode cX11_prepareThought 22 = .ok (.putfield 257, 3) := by decide +kernel
set_option maxRecDepth 100000 in
set_option maxHeartbeats 4000000 in
theorem K_new_thought {ll : List (Nat × j_V)} {M : j_M} {fr lo : Nat} {XM : j_M → Option (j_M)} (hfr : 5 ≤ fr) (hlo9 : 160 ≤ lo) (h : ∀ M1, J yX11_prepareThought cX11_prepareThought 1 none fr lo j_ev 25 ll [] M1 (XM M1)) : J yX11_prepareThought cX11_prepareThought 1 none fr lo j_ev 8 ll [.inr (16, 0, 0)] M (g0 (M 0 3) (oml (al_thought M) XM)) := by
  intro r hr
  have hflag : M 0 3 = 0 := by
    by_cases e : M 0 3 = 0
    · exact e
    · unfold g0 at hr; rw [if_neg e] at hr; cases hr
  have hr : XM (al_thought M) = some r := by
    unfold g0 at hr; rw [if_pos hflag] at hr; exact hr
  have hcc : j_cc (al_thought M) = j_cc M + 20 := by simp [j_cc, al_thought, hflag] <;> omega
  have hcs : j_cs (al_thought M) = j_cs M + 1155 := by simp [j_cs, al_thought, hflag] <;> omega
  have hm := (h (al_thought M) r hr).1
  have hm1 := hm.1
  have hm2 := hm.2
  refine ⟨⟨by omega, by omega⟩, ?_⟩
  intro p l e s m args below meth c D aI aB H0 io Lv K0 mc ms Hb locs cells slots la cx hS hH hl hll hst hlo h1 h2
  have h16 : Lv 16 0 0 := j_live_h hst (show (16 : Nat) ≠ 0 by decide)
  rw [List.map_cons, j_sv (by decide)]
  obtain ⟨r9, hr9, ⟨c9, hc9, hc91, hc92, hc93⟩, hz0, -⟩ := (hH.2.2.2.2.1 16 0 0 h16).2.2.2 6 rfl
  have hr9 : r9 = (RX11, TX11, 5) := Option.some.inj (hr9.symm.trans rfl)
  subst hr9
  have hN := hS.2.2.2.2.2.2.2.2.2.2.1
  have hz9 : ∀ {k : Nat}, H0.size ≤ Hb.size + k := fun {k} => by have := hH.1; omega
  have hsz0 : io 0 < Hb.size := (Array.getElem?_eq_some_iff.mp hc9).1
  have hB : hb Hb Hb 0 [((io 0), n_at D 6 5 (j_fv io M 6 0))] := hb.one ⟨c9, hc9, hc91, hc92, hc93⟩
  refine W.eq (g2 := F0 m 8 la [.ref (io 0)]) rfl ?_
  refine N_new cx hS.1 (C := RX1) (T := TX1) (N := 15) (ci := 0) (V := (vp_V [.null, .null, .null, .null, .null, .null, .null, .null, .int 0, .int 0, .int 0, .int 0, .int 0, .int 0, .int 0])) (q := 11) ws_in0 tyX1 tyX1_ok (j_in 948 (by decide +kernel) (by decide +kernel)) (j_in 216 (by decide +kernel) (by decide +kernel)) (j_in 110 (by decide +kernel) (by decide +kernel)) rfl n_def0 dX11_prepareThought_8 (show cells + 1 ≤ mc by omega) (show slots + 15 ≤ ms by omega) hB rfl (fun H hB => ?_)
  have hB : hb Hb H 1 [((io 0), n_at D 6 5 (j_fv io M 6 0)), (Hb.size + 0, n_at D 0 15 (vp_V [.null, .null, .null, .null, .null, .null, .null, .null, .int 0, .int 0, .int 0, .int 0, .int 0, .int 0, .int 0]))] := hB
  refine W.eq (g2 := F0 m 11 la [.ref (Hb.size + 0), .ref (io 0)]) rfl ?_
  refine lv_dup cx.1 cx.2.1 dX11_prepareThought_11 rfl ?_
  refine N_new cx hS.1 (C := RX5) (T := TX5) (N := 15) (ci := 1) (V := (vp_V [.null, .null, .null, .null, .null, .null, .null, .null, .null, .null, .null, .int 0, .int 0, .int 0, .int 0])) (q := 15) ws_in1 tyX5 tyX5_ok (j_in 949 (by decide +kernel) (by decide +kernel)) (j_in 142 (by decide +kernel) (by decide +kernel)) (j_in 109 (by decide +kernel) (by decide +kernel)) rfl n_def1 dX11_prepareThought_12 (show cells + 1 + 1 ≤ mc by omega) (show slots + 15 + 15 ≤ ms by omega) hB rfl (fun H hB => ?_)
  have hB : hb Hb H 2 [((io 0), n_at D 6 5 (j_fv io M 6 0)), (Hb.size + 0, n_at D 0 15 (vp_V [.null, .null, .null, .null, .null, .null, .null, .null, .int 0, .int 0, .int 0, .int 0, .int 0, .int 0, .int 0])), (Hb.size + 1, n_at D 1 15 (vp_V [.null, .null, .null, .null, .null, .null, .null, .null, .null, .null, .null, .int 0, .int 0, .int 0, .int 0]))] := hB
  refine W.eq (g2 := F0 m 15 la [.ref (Hb.size + 1), .ref (Hb.size + 0), .ref (Hb.size + 0), .ref (io 0)]) rfl ?_
  refine lv_dup cx.1 cx.2.1 dX11_prepareThought_15 rfl ?_
  refine N_ctor cx hS.1 hN (S' := n_at D 1 15 (vp_V [.ref (Hb.size + 2), .ref (Hb.size + 3), .ref (Hb.size + 4), .ref (Hb.size + 5), .ref (Hb.size + 6), .ref (Hb.size + 7), .ref (Hb.size + 8), .ref (Hb.size + 9), .ref (Hb.size + 10), .ref (Hb.size + 11), .ref (Hb.size + 12), .int 0, .int 0, .int 0, .int 0])) (P2 := [(Hb.size + 2, n_ar aI 100 (fun _ => 0)), (Hb.size + 3, n_ar aI 49 (fun _ => 0)), (Hb.size + 4, n_ar aI 49 (fun _ => 0)), (Hb.size + 5, n_ar aI 49 (fun _ => 0)), (Hb.size + 6, n_ar aI 360 (fun _ => 0)), (Hb.size + 7, n_ar aI 6 (fun _ => 0)), (Hb.size + 8, n_ar aI 6 (fun _ => 0)), (Hb.size + 9, n_ar aI 6 (fun _ => 0)), (Hb.size + 10, n_ar aI 6 (fun _ => 0)), (Hb.size + 11, n_ar aI 6 (fun _ => 0)), (Hb.size + 12, n_ar aI 6 (fun _ => 0))]) (q := 19) 2 (c_X5_init l D aI aB H0.size (Hb.size + 1)) cb_X5_init rfl (j_in 144 (by decide +kernel) (by decide +kernel)) (Or.inr ⟨RX11, hN _ (List.mem_of_getElem? (i := 4) rfl)⟩) dX11_prepareThought_16 rfl hl.1 (Nat.le_of_ble_eq_true rfl) ⟨by show _ ≤ fr; omega, by show _ ≤ lo; omega⟩ ⟨(show cells + 1 + 1 + 11 ≤ mc by omega), (show slots + 15 + 15 + 643 ≤ ms by omega)⟩ hB rfl hz9 rfl (by simp <;> omega) hlo rfl (fun H locs hB hlo => ?_)
  have hB : hb Hb H 13 [((io 0), n_at D 6 5 (j_fv io M 6 0)), (Hb.size + 0, n_at D 0 15 (vp_V [.null, .null, .null, .null, .null, .null, .null, .null, .int 0, .int 0, .int 0, .int 0, .int 0, .int 0, .int 0])), (Hb.size + 1, n_at D 1 15 (vp_V [.ref (Hb.size + 2), .ref (Hb.size + 3), .ref (Hb.size + 4), .ref (Hb.size + 5), .ref (Hb.size + 6), .ref (Hb.size + 7), .ref (Hb.size + 8), .ref (Hb.size + 9), .ref (Hb.size + 10), .ref (Hb.size + 11), .ref (Hb.size + 12), .int 0, .int 0, .int 0, .int 0])), (Hb.size + 2, n_ar aI 100 (fun _ => 0)), (Hb.size + 3, n_ar aI 49 (fun _ => 0)), (Hb.size + 4, n_ar aI 49 (fun _ => 0)), (Hb.size + 5, n_ar aI 49 (fun _ => 0)), (Hb.size + 6, n_ar aI 360 (fun _ => 0)), (Hb.size + 7, n_ar aI 6 (fun _ => 0)), (Hb.size + 8, n_ar aI 6 (fun _ => 0)), (Hb.size + 9, n_ar aI 6 (fun _ => 0)), (Hb.size + 10, n_ar aI 6 (fun _ => 0)), (Hb.size + 11, n_ar aI 6 (fun _ => 0)), (Hb.size + 12, n_ar aI 6 (fun _ => 0))] := hB
  refine W.eq (g2 := F0 m 19 la [.ref (Hb.size + 1), .ref (Hb.size + 0), .ref (Hb.size + 0), .ref (io 0)]) rfl ?_
  refine N_ctor cx hS.1 hN (S' := n_at D 0 15 (vp_V [.ref (Hb.size + 1), .ref (Hb.size + 13), .ref (Hb.size + 14), .ref (Hb.size + 15), .ref (Hb.size + 16), .ref (Hb.size + 17), .ref (Hb.size + 18), .ref (Hb.size + 19), .int 0, .int (3), .int (8), .int (4), .int 0, .int (6), .int 0])) (P2 := [(Hb.size + 13, n_ar aI 112 (fun j => if j < 8 then 56 else 0)), (Hb.size + 14, n_ar aI 256 (fun _ => 0)), (Hb.size + 15, n_ar aI 48 (fun _ => -1)), (Hb.size + 16, n_ar aI 48 (fun _ => 0)), (Hb.size + 17, n_ar aI 6 (fun _ => 0)), (Hb.size + 18, n_ar aI 6 (fun _ => 0)), (Hb.size + 19, n_ar aI 6 (fun _ => 0))]) (q := 22) 1 (c_X1_init l D aI aB H0.size (Hb.size + 0) ((Hb.size + 1))) cb_X1_init rfl (j_in 218 (by decide +kernel) (by decide +kernel)) (Or.inl (j_in 951 (by decide +kernel) (by decide +kernel))) dX11_prepareThought_19 rfl hl.1 (Nat.le_of_ble_eq_true rfl) ⟨by show _ ≤ fr; omega, by show _ ≤ lo; omega⟩ ⟨(show cells + 1 + 1 + 11 + 7 ≤ mc by omega), (show slots + 15 + 15 + 643 + 482 ≤ ms by omega)⟩ hB rfl hz9 rfl (by simp <;> omega) hlo rfl (fun H locs hB hlo => ?_)
  have hB : hb Hb H 20 [((io 0), n_at D 6 5 (j_fv io M 6 0)), (Hb.size + 0, n_at D 0 15 (vp_V [.ref (Hb.size + 1), .ref (Hb.size + 13), .ref (Hb.size + 14), .ref (Hb.size + 15), .ref (Hb.size + 16), .ref (Hb.size + 17), .ref (Hb.size + 18), .ref (Hb.size + 19), .int 0, .int (3), .int (8), .int (4), .int 0, .int (6), .int 0])), (Hb.size + 1, n_at D 1 15 (vp_V [.ref (Hb.size + 2), .ref (Hb.size + 3), .ref (Hb.size + 4), .ref (Hb.size + 5), .ref (Hb.size + 6), .ref (Hb.size + 7), .ref (Hb.size + 8), .ref (Hb.size + 9), .ref (Hb.size + 10), .ref (Hb.size + 11), .ref (Hb.size + 12), .int 0, .int 0, .int 0, .int 0])), (Hb.size + 2, n_ar aI 100 (fun _ => 0)), (Hb.size + 3, n_ar aI 49 (fun _ => 0)), (Hb.size + 4, n_ar aI 49 (fun _ => 0)), (Hb.size + 5, n_ar aI 49 (fun _ => 0)), (Hb.size + 6, n_ar aI 360 (fun _ => 0)), (Hb.size + 7, n_ar aI 6 (fun _ => 0)), (Hb.size + 8, n_ar aI 6 (fun _ => 0)), (Hb.size + 9, n_ar aI 6 (fun _ => 0)), (Hb.size + 10, n_ar aI 6 (fun _ => 0)), (Hb.size + 11, n_ar aI 6 (fun _ => 0)), (Hb.size + 12, n_ar aI 6 (fun _ => 0)), (Hb.size + 13, n_ar aI 112 (fun j => if j < 8 then 56 else 0)), (Hb.size + 14, n_ar aI 256 (fun _ => 0)), (Hb.size + 15, n_ar aI 48 (fun _ => -1)), (Hb.size + 16, n_ar aI 48 (fun _ => 0)), (Hb.size + 17, n_ar aI 6 (fun _ => 0)), (Hb.size + 18, n_ar aI 6 (fun _ => 0)), (Hb.size + 19, n_ar aI 6 (fun _ => 0))] := hB
  refine W.eq (g2 := F0 m 22 la [.ref (Hb.size + 0), .ref (io 0)]) rfl ?_
  refine N_put cx hS.1 (ci := 6) (N := 5) (V' := updV (j_fv io M 6 0) 3 (.ref (Hb.size + 0))) (q := 25) 3 0 dX11_prepareThought_22 fRX11_257 (Or.inl fp_6_3) rfl rfl rfl hB rfl hz0 hlo rfl rfl (fun H locs hB hlo => ?_)
  have hB : hb Hb H 20 [((io 0), n_at D 6 5 (updV (j_fv io M 6 0) 3 (.ref (Hb.size + 0)))), (Hb.size + 0, n_at D 0 15 (vp_V [.ref (Hb.size + 1), .ref (Hb.size + 13), .ref (Hb.size + 14), .ref (Hb.size + 15), .ref (Hb.size + 16), .ref (Hb.size + 17), .ref (Hb.size + 18), .ref (Hb.size + 19), .int 0, .int (3), .int (8), .int (4), .int 0, .int (6), .int 0])), (Hb.size + 1, n_at D 1 15 (vp_V [.ref (Hb.size + 2), .ref (Hb.size + 3), .ref (Hb.size + 4), .ref (Hb.size + 5), .ref (Hb.size + 6), .ref (Hb.size + 7), .ref (Hb.size + 8), .ref (Hb.size + 9), .ref (Hb.size + 10), .ref (Hb.size + 11), .ref (Hb.size + 12), .int 0, .int 0, .int 0, .int 0])), (Hb.size + 2, n_ar aI 100 (fun _ => 0)), (Hb.size + 3, n_ar aI 49 (fun _ => 0)), (Hb.size + 4, n_ar aI 49 (fun _ => 0)), (Hb.size + 5, n_ar aI 49 (fun _ => 0)), (Hb.size + 6, n_ar aI 360 (fun _ => 0)), (Hb.size + 7, n_ar aI 6 (fun _ => 0)), (Hb.size + 8, n_ar aI 6 (fun _ => 0)), (Hb.size + 9, n_ar aI 6 (fun _ => 0)), (Hb.size + 10, n_ar aI 6 (fun _ => 0)), (Hb.size + 11, n_ar aI 6 (fun _ => 0)), (Hb.size + 12, n_ar aI 6 (fun _ => 0)), (Hb.size + 13, n_ar aI 112 (fun j => if j < 8 then 56 else 0)), (Hb.size + 14, n_ar aI 256 (fun _ => 0)), (Hb.size + 15, n_ar aI 48 (fun _ => -1)), (Hb.size + 16, n_ar aI 48 (fun _ => 0)), (Hb.size + 17, n_ar aI 6 (fun _ => 0)), (Hb.size + 18, n_ar aI 6 (fun _ => 0)), (Hb.size + 19, n_ar aI 6 (fun _ => 0))] := hB
  have hkeep : ∀ q, q < Hb.size → q ≠ io 0 → H[q]? = Hb[q]? := fun q hq hq0 => hB.2.1 q hq fun x hx => by
    simp only [List.mem_cons, List.not_mem_nil, or_false] at hx
    rcases hx with rfl | rfl | rfl | rfl | rfl | rfl | rfl | rfl | rfl | rfl | rfl | rfl | rfl | rfl | rfl | rfl | rfl | rfl | rfl | rfl | rfl <;> simp only [] <;> omega
  have hkd : ∀ r, r < 20 → l_ok D aI (l_io io 70 20 Hb.size l_off_thought) (al_thought M) 70 20 l_kd_thought H r := fun r hr => by
    match r, hr with
    | 0, _ =>
      refine Or.inr ⟨0, _, rfl, rfl, l_obj (i := 1) hB rfl (fun k hk => by match k, hk with | 0, _ => rfl | 1, _ => rfl | 2, _ => rfl | 3, _ => rfl | 4, _ => rfl | 5, _ => rfl | 6, _ => rfl | 7, _ => rfl | 8, _ => rfl | 9, _ => rfl | 10, _ => rfl | 11, _ => rfl | 12, _ => rfl | 13, _ => rfl | 14, _ => rfl | k + 15, hk => exact absurd hk (by show ¬ k + 15 < 15; omega)), fun f hf => ?_⟩
      match f, hf with
      | 0, _ => intro gg hg; cases hg; exact ⟨rfl, by decide, rfl⟩
      | 1, _ => intro gg hg; cases hg; exact ⟨rfl, by decide, rfl⟩
      | 2, _ => intro gg hg; cases hg; exact ⟨rfl, by decide, rfl⟩
      | 3, _ => intro gg hg; cases hg; exact ⟨rfl, by decide, rfl⟩
      | 4, _ => intro gg hg; cases hg; exact ⟨rfl, by decide, rfl⟩
      | 5, _ => intro gg hg; cases hg; exact ⟨rfl, by decide, rfl⟩
      | 6, _ => intro gg hg; cases hg; exact ⟨rfl, by decide, rfl⟩
      | 7, _ => intro gg hg; cases hg; exact ⟨rfl, by decide, rfl⟩
      | 8, _ => intro gg hg; cases hg
      | 9, _ => intro gg hg; cases hg
      | 10, _ => intro gg hg; cases hg
      | 11, _ => intro gg hg; cases hg
      | 12, _ => intro gg hg; cases hg
      | 13, _ => intro gg hg; cases hg
      | 14, _ => intro gg hg; cases hg
      | f + 15, hf => exact absurd hf (by show ¬ f + 15 < 15; omega)
    | 1, _ => exact Or.inl ⟨112, rfl, l_cell (i := 14) hB rfl⟩
    | 2, _ => exact Or.inl ⟨256, rfl, l_cell (i := 15) hB rfl⟩
    | 3, _ => exact Or.inl ⟨48, rfl, l_cell (i := 16) hB rfl⟩
    | 4, _ => exact Or.inl ⟨48, rfl, l_cell (i := 17) hB rfl⟩
    | 5, _ => exact Or.inl ⟨6, rfl, l_cell (i := 18) hB rfl⟩
    | 6, _ => exact Or.inl ⟨6, rfl, l_cell (i := 19) hB rfl⟩
    | 7, _ => exact Or.inl ⟨6, rfl, l_cell (i := 20) hB rfl⟩
    | 8, _ =>
      refine Or.inr ⟨1, _, rfl, rfl, l_obj (i := 2) hB rfl (fun k hk => by match k, hk with | 0, _ => rfl | 1, _ => rfl | 2, _ => rfl | 3, _ => rfl | 4, _ => rfl | 5, _ => rfl | 6, _ => rfl | 7, _ => rfl | 8, _ => rfl | 9, _ => rfl | 10, _ => rfl | 11, _ => rfl | 12, _ => rfl | 13, _ => rfl | 14, _ => rfl | k + 15, hk => exact absurd hk (by show ¬ k + 15 < 15; omega)), fun f hf => ?_⟩
      match f, hf with
      | 0, _ => intro gg hg; cases hg; exact ⟨rfl, by decide, rfl⟩
      | 1, _ => intro gg hg; cases hg; exact ⟨rfl, by decide, rfl⟩
      | 2, _ => intro gg hg; cases hg; exact ⟨rfl, by decide, rfl⟩
      | 3, _ => intro gg hg; cases hg; exact ⟨rfl, by decide, rfl⟩
      | 4, _ => intro gg hg; cases hg; exact ⟨rfl, by decide, rfl⟩
      | 5, _ => intro gg hg; cases hg; exact ⟨rfl, by decide, rfl⟩
      | 6, _ => intro gg hg; cases hg; exact ⟨rfl, by decide, rfl⟩
      | 7, _ => intro gg hg; cases hg; exact ⟨rfl, by decide, rfl⟩
      | 8, _ => intro gg hg; cases hg; exact ⟨rfl, by decide, rfl⟩
      | 9, _ => intro gg hg; cases hg; exact ⟨rfl, by decide, rfl⟩
      | 10, _ => intro gg hg; cases hg; exact ⟨rfl, by decide, rfl⟩
      | 11, _ => intro gg hg; cases hg
      | 12, _ => intro gg hg; cases hg
      | 13, _ => intro gg hg; cases hg
      | 14, _ => intro gg hg; cases hg
      | f + 15, hf => exact absurd hf (by show ¬ f + 15 < 15; omega)
    | 9, _ => exact Or.inl ⟨100, rfl, l_cell (i := 3) hB rfl⟩
    | 10, _ => exact Or.inl ⟨49, rfl, l_cell (i := 4) hB rfl⟩
    | 11, _ => exact Or.inl ⟨49, rfl, l_cell (i := 5) hB rfl⟩
    | 12, _ => exact Or.inl ⟨49, rfl, l_cell (i := 6) hB rfl⟩
    | 13, _ => exact Or.inl ⟨360, rfl, l_cell (i := 7) hB rfl⟩
    | 14, _ => exact Or.inl ⟨6, rfl, l_cell (i := 8) hB rfl⟩
    | 15, _ => exact Or.inl ⟨6, rfl, l_cell (i := 9) hB rfl⟩
    | 16, _ => exact Or.inl ⟨6, rfl, l_cell (i := 10) hB rfl⟩
    | 17, _ => exact Or.inl ⟨6, rfl, l_cell (i := 11) hB rfl⟩
    | 18, _ => exact Or.inl ⟨6, rfl, l_cell (i := 12) hB rfl⟩
    | 19, _ => exact Or.inl ⟨6, rfl, l_cell (i := 13) hB rfl⟩
    | r + 20, hr => exact absurd hr (by omega)
  have hinj0 : ∀ r, r < 20 → ∀ r', r' < 20 → l_off_thought r = l_off_thought r' → r = r' := by decide +kernel
  have hinj := fun r r' hr hr' => hinj0 r hr r' hr'
  obtain ⟨hH2, hx⟩ := j_H_late (M2 := al_thought M) (off := l_off_thought) (kd := l_kd_thought) hH h16 (show l_bk 3 70 20 by unfold l_bk; omega) hB.1 hkeep hflag hinj (fun j => by simp [al_thought]) (fun x hx hxr => by funext j; unfold al_thought; rw [if_neg hx, if_neg (by omega)]) rfl hkd (l_obj (i := 0) hB rfl (fun _ _ => rfl))
  have hst9 : ∀ x ∈ ([] : List j_V), j_live (l_Lv Lv 70 20 l_kd_thought) x := fun x hx => by cases hx
  refine W.widen (k := cells + 20) (n := slots + 1155) (by omega) (by omega) ?_
  refine fun T hT XX => ?_
  obtain ⟨t, a1, o, b1, b2, ⟨io2, Lv2, x1, x2, x3, x4⟩, b3⟩ := (h (al_thought M) r hr).2 p l e s m args below meth c D aI aB H0 _ _ K0 mc ms H locs (cells + 20) (slots + 1155) la cx (hS.ext hx) hH2 (by rw [j_lm_ext hx hll]; exact hl) (fun q hq => j_live_ext hx (hll q hq)) hst9 hlo (by omega) (by omega) T hT XX
  exact ⟨t, a1, o, b1, b2, ⟨io2, Lv2, hx.trans x1, x2, x3, x4⟩, b3⟩
