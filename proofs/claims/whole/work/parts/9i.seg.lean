/-! ===== what is said, as often as it is said ===== -/
def rep : Nat → List Nat → List Nat
  | 0, _ => []
  | t + 1, L => L ++ rep t L
theorem gd_l {A B : List Nat} {j : Nat} (h : j < A.length) : (A ++ B).getD j 0 = A.getD j 0 := by
  rw [List.getD_eq_getElem?_getD, List.getD_eq_getElem?_getD, List.getElem?_append_left h]
theorem gd_r {A B : List Nat} {j : Nat} (h : A.length ≤ j) : (A ++ B).getD j 0 = B.getD (j - A.length) 0 := by
  rw [List.getD_eq_getElem?_getD, List.getD_eq_getElem?_getD, List.getElem?_append_right h]
theorem rep_len {L : List Nat} : ∀ t, (rep t L).length = t * L.length
  | 0 => by rw [Nat.zero_mul]; rfl
  | t + 1 => by
    show (L ++ rep t L).length = _
    rw [List.length_append, rep_len t, Nat.succ_mul]
    omega
theorem rep_get {L : List Nat} : ∀ t j, j < t * L.length → (rep t L).getD j 0 = L.getD (j % L.length) 0
  | 0, j, h => by rw [Nat.zero_mul] at h; omega
  | t + 1, j, h => by
    rw [Nat.succ_mul] at h
    show (L ++ rep t L).getD j 0 = _
    by_cases c : j < L.length
    · rw [gd_l c, Nat.mod_eq_of_lt c]
    · rw [gd_r (by omega), rep_get t (j - L.length) (by omega), ← Nat.mod_eq_sub_mod (by omega)]
def ACT (F : Nat → Int32) (b v x y : Nat) : Prop := F (4 * b) = nI (v - 1) ∧ F (4 * b + 1) = nI x ∧ F (4 * b + 2) = nI y ∧ 1 ≤ v ∧ v < 5 ∧ x < 10 ∧ y < 10000 ∧ (v < 4 → x < 8)
def LOOP (F : Nat → Int32) (o t b : Nat) : Prop := F (4 * o) = nI 4 ∧ F (4 * o + 1) = nI t ∧ F (4 * o + 3) = nI b ∧ 1 ≤ t ∧ t ≤ 9
/-- the rows a .. b - 1 of F say L, loops in at most e deep -/
def SEG (F : Nat → Int32) (e a b : Nat) (L : List Nat) : Prop :=
  ∀ P : Nat → Nat → Nat → List Nat → Prop, (∀ e a, P e a a []) →
    (∀ e a b L v x y, P e a b L → ACT F b v x y → P e a (b + 1) (L ++ [v + 16 * x + 2048 * y])) →
    (∀ e a o b L t B, P (e + 1) a o L → LOOP F o t b → P e (o + 1) b B → P (e + 1) a b (L ++ rep t B)) → P e a b L
theorem SEG_nil {F : Nat → Int32} {e a : Nat} : SEG F e a a [] := fun P h1 _ _ => h1 e a
theorem SEG_act {F : Nat → Int32} {e a b v x y : Nat} {L : List Nat} (h : SEG F e a b L) (ha : ACT F b v x y) : SEG F e a (b + 1) (L ++ [v + 16 * x + 2048 * y]) :=
  fun P h1 h2 h3 => h2 _ _ _ _ _ _ _ (h P h1 h2 h3) ha
theorem SEG_loop {F : Nat → Int32} {e a b o t : Nat} {L B : List Nat} (h : SEG F (e + 1) a o L) (hl : LOOP F o t b) (hb : SEG F e (o + 1) b B) : SEG F (e + 1) a b (L ++ rep t B) :=
  fun P h1 h2 h3 => h3 _ _ _ _ _ _ _ (h P h1 h2 h3) hl (hb P h1 h2 h3)
theorem pw9 (e : Nat) : 1 ≤ 9 ^ e := Nat.one_le_pow _ _ (by omega)
theorem SEG_b {F : Nat → Int32} {e a b : Nat} {L : List Nat} (h : SEG F e a b L) : a ≤ b ∧ L.length ≤ 9 ^ e * (b - a) := by
  refine h (fun e a b L => a ≤ b ∧ L.length ≤ 9 ^ e * (b - a)) (fun e a => ⟨Nat.le_refl _, Nat.zero_le _⟩) (fun e a b L v x y h _ => ?_) (fun e a o b L t B h hl hb => ?_)
  · refine ⟨by omega, ?_⟩
    have := pw9 e
    rw [List.length_append, show b + 1 - a = (b - a) + 1 by omega, Nat.mul_add, Nat.mul_one]
    have h2 := h.2
    show L.length + 1 ≤ _
    omega
  · obtain ⟨h1, h2⟩ := h
    obtain ⟨b1, b2⟩ := hb
    obtain ⟨i, rfl⟩ : ∃ i, o = a + i := ⟨o - a, by omega⟩
    obtain ⟨j, rfl⟩ : ∃ j, b = a + i + 1 + j := ⟨b - (a + i + 1), by omega⟩
    refine ⟨by omega, ?_⟩
    rw [List.length_append, rep_len, show a + i + 1 + j - a = i + 1 + j by omega]
    rw [show a + i - a = i by omega] at h2
    rw [show a + i + 1 + j - (a + i + 1) = j by omega] at b2
    rw [Nat.pow_succ] at h2 ⊢
    have e1 : 9 ^ e * 9 * (i + 1 + j) = 9 ^ e * 9 * i + 9 ^ e * 9 + 9 * (9 ^ e * j) := by
      rw [Nat.mul_add, Nat.mul_add, Nat.mul_one, Nat.mul_assoc (9 ^ e) 9 j, Nat.mul_left_comm (9 ^ e) 9 j]
    have e2 : t * B.length ≤ 9 * (9 ^ e * j) := Nat.mul_le_mul hl.2.2.2.2 b2
    rw [e1]
    omega
theorem SEG_f {F G : Nat → Int32} {e a b : Nat} {L : List Nat} (h : SEG F e a b L) (hg : ∀ j, 4 * a ≤ j → j < 4 * b → G j = F j) : SEG G e a b L := by
  refine (h (fun e a b L => a ≤ b ∧ ((∀ j, 4 * a ≤ j → j < 4 * b → G j = F j) → SEG G e a b L)) (fun e a => ⟨Nat.le_refl _, fun _ => SEG_nil⟩) (fun e a b L v x y h ha => ?_) (fun e a o b L t B h hl hb => ?_)).2 hg
  · refine ⟨by omega, fun q => SEG_act (h.2 fun j a1 a2 => q j a1 (by omega)) ?_⟩
    have h1 := h.1
    unfold ACT at ha ⊢
    rw [q (4 * b) (by omega) (by omega), q (4 * b + 1) (by omega) (by omega), q (4 * b + 2) (by omega) (by omega)]
    exact ha
  · have h1 := h.1
    have h2 := hb.1
    refine ⟨by omega, fun q => SEG_loop (h.2 fun j a1 a2 => q j a1 (by omega)) ?_ (hb.2 fun j a1 a2 => q j (by omega) a2)⟩
    unfold LOOP at hl ⊢
    rw [q (4 * o) (by omega) (by omega), q (4 * o + 1) (by omega) (by omega), q (4 * o + 3) (by omega) (by omega)]
    exact hl
/-- what is said so far, d loops being open -/
def STK (F : Nat → Int32) (o st tm : Nat → Nat) : Nat → Nat → List Nat → Prop
  | 0, s, L => SEG F 3 0 s L
  | d + 1, s, L => d < 3 ∧ ∃ A B, STK F o st tm d (o d) A ∧ F (4 * o d) = nI 4 ∧ F (4 * o d + 1) = nI (tm d) ∧ 1 ≤ tm d ∧ tm d ≤ 9 ∧ st d = A.length ∧ SEG F (2 - d) (o d + 1) s B ∧ L = A ++ B
theorem STK_b {F : Nat → Int32} {o st tm : Nat → Nat} : ∀ {d s : Nat} {L : List Nat}, STK F o st tm d s L → L.length ≤ 729 * s
  | 0, s, L, h => (SEG_b (F := F) (e := 3) (a := 0) (b := s) h).2
  | d + 1, s, L, h => by
    obtain ⟨h0, A, B, h1, h2, h3, h4, h5, h6, h7, rfl⟩ := h
    have b1 := STK_b h1
    have b2 := SEG_b h7
    have b3 : 9 ^ (2 - d) * (s - (o d + 1)) ≤ 729 * (s - (o d + 1)) := Nat.mul_le_mul_right _ (Nat.pow_le_pow_right (by omega) (by omega : 2 - d ≤ 3))
    have b4 := b2.1
    have b5 := b2.2
    rw [List.length_append]
    omega
theorem STK_f {F G : Nat → Int32} {o st tm o' st' tm' : Nat → Nat} : ∀ {d s : Nat} {L : List Nat}, STK F o st tm d s L → (∀ j, j < 4 * s → G j = F j) → (∀ i, i < d → o' i = o i ∧ st' i = st i ∧ tm' i = tm i) → STK G o' st' tm' d s L
  | 0, s, L, h, hg, _ => SEG_f (F := F) (e := 3) (a := 0) (b := s) h (fun j _ q => hg j q)
  | d + 1, s, L, h, hg, ho => by
    obtain ⟨h0, A, B, h1, h2, h3, h4, h5, h6, h7, rfl⟩ := h
    obtain ⟨o1, o2, o3⟩ := ho d (by omega)
    have b2 := (SEG_b h7).1
    refine ⟨h0, A, B, ?_, ?_, ?_, by rw [o3]; exact h4, by rw [o3]; exact h5, by rw [o2]; exact h6, ?_, rfl⟩
    · rw [o1]; exact STK_f h1 (fun j q => hg j (by omega)) (fun i q => ho i (by omega))
    · rw [o1, hg _ (by omega)]; exact h2
    · rw [o1, o3, hg _ (by omega)]; exact h3
    · rw [o1]; exact SEG_f h7 (fun j _ q => hg j q)
theorem STK_act {F : Nat → Int32} {o st tm : Nat → Nat} {v x y : Nat} : ∀ {d s : Nat} {L : List Nat}, STK F o st tm d s L → ACT F s v x y → STK F o st tm d (s + 1) (L ++ [v + 16 * x + 2048 * y])
  | 0, s, L, h, ha => SEG_act (F := F) (e := 3) (a := 0) (b := s) h ha
  | d + 1, s, L, h, ha => by
    obtain ⟨h0, A, B, h1, h2, h3, h4, h5, h6, h7, rfl⟩ := h
    exact ⟨h0, A, B ++ [v + 16 * x + 2048 * y], h1, h2, h3, h4, h5, h6, SEG_act h7 ha, List.append_assoc _ _ _⟩
theorem STK_loop {F : Nat → Int32} {o st tm : Nat → Nat} {t b : Nat} {B' : List Nat} : ∀ {d s : Nat} {L : List Nat}, STK F o st tm d s L → d < 3 → LOOP F s t b → SEG F (2 - d) (s + 1) b B' → STK F o st tm d b (L ++ rep t B')
  | 0, s, L, h, _, hl, hb => SEG_loop (F := F) (e := 2) (a := 0) (o := s) h hl hb
  | d + 1, s, L, h, hd, hl, hb => by
    obtain ⟨h0, A, B, h1, h2, h3, h4, h5, h6, h7, rfl⟩ := h
    refine ⟨h0, A, B ++ rep t B', h1, h2, h3, h4, h5, h6, ?_, List.append_assoc _ _ _⟩
    rw [show 2 - d = (2 - (d + 1)) + 1 by omega] at h7 ⊢
    exact SEG_loop h7 hl hb
theorem STK_open {F : Nat → Int32} {o st tm : Nat → Nat} {d s : Nat} {L : List Nat} (h : STK F o st tm d s L) (hd : d < 3) (ho : o d = s) (h4 : F (4 * s) = nI 4) (h5 : F (4 * s + 1) = nI (tm d)) (h1 : 1 ≤ tm d) (h9 : tm d ≤ 9) (hs : st d = L.length) : STK F o st tm (d + 1) (s + 1) L := by
  refine ⟨hd, L, [], ?_, ?_, ?_, h1, h9, hs, ?_, (List.append_nil L).symm⟩
  · rw [ho]; exact h
  · rw [ho]; exact h4
  · rw [ho]; exact h5
  · rw [ho]; exact SEG_nil
theorem STK_close {F G : Nat → Int32} {o st tm : Nat → Nat} {d s : Nat} {L : List Nat} (h : STK F o st tm (d + 1) s L) (hg : ∀ j, j ≠ 4 * o d + 3 → G j = F j) (h3 : G (4 * o d + 3) = nI s) : o d < s ∧ ∃ A B, L = A ++ B ∧ st d = A.length ∧ 1 ≤ tm d ∧ tm d ≤ 9 ∧ STK G o st tm d s (A ++ rep (tm d) B) := by
  obtain ⟨h0, A, B, h1, h2, h3', h4, h5, h6, h7, rfl⟩ := h
  have b2 := (SEG_b h7).1
  refine ⟨by omega, A, B, rfl, h6, h4, h5, STK_loop (s := o d) (STK_f h1 (fun j q => hg j (by omega)) (fun _ _ => ⟨rfl, rfl, rfl⟩)) h0 ⟨?_, ?_, h3, h4, h5⟩ (SEG_f h7 (fun j q _ => hg j (by omega)))⟩
  · rw [hg _ (by omega)]; exact h2
  · rw [hg _ (by omega)]; exact h3'
/-- what the class copies is what the loop says -/
theorem rep_cls {A B : List Nat} {t : Nat} {f : Nat → Int32} (ht : 1 ≤ t) (h1 : ∀ j, j < (A ++ B).length → j < 200 → f j = nI ((A ++ B).getD j 0)) (h2 : ∀ j, A.length + B.length ≤ j → j < A.length + B.length * t → j < 200 → f j = f (j - B.length)) : ∀ j, j < (A ++ rep t B).length → j < 200 → f j = nI ((A ++ rep t B).getD j 0) := by
  intro j
  induction j using Nat.strongRecOn with
  | _ j ih =>
    intro hj h200
    rw [List.length_append, rep_len, Nat.mul_comm] at hj
    have hBt : B.length * 1 ≤ B.length * t := Nat.mul_le_mul_left _ ht
    by_cases c1 : j < A.length
    · rw [h1 j (by rw [List.length_append]; omega) h200, gd_l c1, gd_l c1]
    · rw [gd_r (by omega), rep_get t (j - A.length) (by rw [Nat.mul_comm]; omega)]
      by_cases c2 : j < A.length + B.length
      · rw [h1 j (by rw [List.length_append]; omega) h200, gd_r (by omega), Nat.mod_eq_of_lt (by omega)]
      · rw [h2 j (by omega) (by omega) h200]
        by_cases c3 : B.length = 0
        · rw [c3] at hj c2
          omega
        · rw [ih (j - B.length) (by omega) (by rw [List.length_append, rep_len, Nat.mul_comm]; omega) (by omega), gd_r (by omega), rep_get t _ (by rw [Nat.mul_comm]; omega), Nat.mod_eq_sub_mod (a := j - A.length) (b := B.length) (by omega), show j - B.length - A.length = j - A.length - B.length by omega]
