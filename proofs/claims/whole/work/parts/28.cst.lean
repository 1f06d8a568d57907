def s_low : List Int32 := [0, 0, 0, 0, 1, 1, 0, 1, 1, 1, 1, 1, 0]
def s_high : List Int32 := [0, 7, 7, 7, 9, 9, 7, 50, 50, 99, 60, 60, 3]
def s_sec : List Int32 := [-1, -1, 9999, 9999, -1, -1, -1, -1, -1, -1, -1, 2, -1]
/-- the memory at the start: what is only read -/
def k0 (xs : Nat → Int32) : j_M := fun x j => if x = 310 then xs j else if x = 300 then s_low.getD j 0 else if x = 301 then s_high.getD j 0 else if x = 302 then s_sec.getD j 0 else 0
def s_tm (i : Nat) : Term := match j_txt[i]? with
  | some q => .string q.1 q.2.1
  | none => .string "" 0
def s_fl : List Cond := flatC (Jvm.Cond.and given_1 narrow_1)
theorem s_low_e : ∀ j, j < 13 → Cond.eq (.elem (.static RX0 "LOWEST" "[I") (.int (Int32.ofNat j))) (.int (s_low.getD j 0)) ∈ s_fl := by decide +kernel
theorem s_low_a : Cond.arrayOf (.static RX0 "LOWEST" "[I") .int ∈ s_fl := by decide +kernel
theorem s_low_l : Cond.eq (.length (.static RX0 "LOWEST" "[I")) (.int (Int32.ofNat 13)) ∈ s_fl := by decide +kernel
theorem s_high_e : ∀ j, j < 13 → Cond.eq (.elem (.static RX0 "HIGHEST" "[I") (.int (Int32.ofNat j))) (.int (s_high.getD j 0)) ∈ s_fl := by decide +kernel
theorem s_high_a : Cond.arrayOf (.static RX0 "HIGHEST" "[I") .int ∈ s_fl := by decide +kernel
theorem s_high_l : Cond.eq (.length (.static RX0 "HIGHEST" "[I")) (.int (Int32.ofNat 13)) ∈ s_fl := by decide +kernel
theorem s_sec_e : ∀ j, j < 13 → Cond.eq (.elem (.static RX0 "SECOND" "[I") (.int (Int32.ofNat j))) (.int (s_sec.getD j 0)) ∈ s_fl := by decide +kernel
theorem s_sec_a : Cond.arrayOf (.static RX0 "SECOND" "[I") .int ∈ s_fl := by decide +kernel
theorem s_sec_l : Cond.eq (.length (.static RX0 "SECOND" "[I")) (.int (Int32.ofNat 13)) ∈ s_fl := by decide +kernel
theorem s_t1 : ∀ i, i < 13 → Cond.exactly (s_tm i) "java/lang/String" ∈ s_fl := by decide +kernel
theorem s_t2 : ∀ i, i < 13 → Cond.eq (.field (s_tm i) "java/lang/String" "coder" "B") (.int 0) ∈ s_fl := by decide +kernel
theorem s_t3 : ∀ i, i < 13 → Cond.arrayOf (.field (s_tm i) "java/lang/String" "value" "[B") .byte ∈ s_fl := by decide +kernel
theorem s_t4 : ∀ i, i < 13 → Cond.eq (.length (.field (s_tm i) "java/lang/String" "value" "[B")) (.int (Int32.ofNat (j_len.getD i 0))) ∈ s_fl := by decide +kernel
theorem s_t5 : ∀ i, i < 13 → ∀ j, j < j_len.getD i 0 → Cond.eq (.elem (.field (s_tm i) "java/lang/String" "value" "[B") (.int (Int32.ofNat j))) (.int ((j_byt.getD i []).getD j 0)) ∈ s_fl := by decide +kernel
theorem s_t6 : ∀ i, i < 13 → ∀ j, j < 13 → i ≠ j → (Cond.not (Cond.eq (s_tm i) (s_tm j)) ∈ s_fl ∨ Cond.not (Cond.eq (s_tm j) (s_tm i)) ∈ s_fl) := by decide +kernel
theorem s_cs : Cond.eq (.static "java/lang/String" "COMPACT_STRINGS" "Z") (.int 1) ∈ s_fl := by decide +kernel
theorem s_si : Cond.isRef (.static "jdk/internal/util/Preconditions" "SIOOBE_FORMATTER" "Ljava/util/function/BiFunction;") ∈ s_fl := by decide +kernel
theorem s_strs : (j_txt.map fun q => Cond.stringRef q.1 q.2.1 q.2.2.2) = [748, 1594, 1595, 1596, 1597, 1598, 1599, 1600, 1574, 1588, 1589, 1601, 1602].filterMap (fun i => lw_tbl[i]?) := by decide +kernel
theorem s_nest : (j_nest.map fun q => Cond.methodLinkNest q.1 q.2.1 q.2.2.1 q.2.2.2) = [144, 289, 345, 463, 995, 1007].filterMap (fun i => lw_tbl[i]?) := by decide +kernel
theorem s_sub {ws : List Cond} {ps : List Nat} (h : ws = ps.filterMap (fun i => lw_tbl[i]?)) : ∀ w ∈ ws, w ∈ lw_tbl := fun w hw => by
  rw [h] at hw
  obtain ⟨i, -, hi⟩ := List.mem_filterMap.mp hw
  exact List.mem_of_getElem? hi
def s_io (b t0 t1 t2 sq : Nat) (adK adV : Nat → Nat) : Nat → Nat := fun x => if x = 310 then b else if x = 300 then t0 else if x = 301 then t1 else if x = 302 then t2 else if x = 360 then sq else if x < 340 then adK (x - 320) else adV (x - 340)
def s_Lv (L : Nat) (isr : Prop) : j_L := fun k n a => (k = 3 ∧ n = L ∧ a = 310) ∨ (k = 3 ∧ n = 13 ∧ (a = 300 ∨ a = 301 ∨ a = 302)) ∨ (k = 4 ∧ n = 0 ∧ 320 ≤ a ∧ a < 333) ∨ (k = 5 ∧ 340 ≤ a ∧ a < 353 ∧ n = j_len.getD (a - 340) 0) ∨ (k = 6 ∧ n = 0 ∧ a = 360 ∧ isr)
set_option maxHeartbeats 4000000 in
set_option maxRecDepth 100000 in
theorem s_start {s : State} {args : Array Value} (hts : ∀ w ∈ lw_tbl, w.before args s = true) (hgv : (Jvm.Cond.and given_1 narrow_1).before args s = true) {b L : Nat} {xs : Nat → Int32} (hX : va_X b L xs s s.heap) (hbl : b < s.heap.size) :
    ∃ (D : va_G) (aI aB : ClassId) (io : Nat → Nat) (Lv : j_L), j_S D aI aB s.heap io Lv (k0 xs) s ∧ j_H D aI aB s.heap io Lv (k0 xs) (k0 xs) s.heap ∧ Lv 3 L 310 ∧ io 310 = b ∧ ∀ k n a, Lv k n a → 300 ≤ a ∧ 3 ≤ k ∧ k < 10 := by
  have hs : ∀ c ∈ s_fl, c.before args s = true := flat_of_before _ hgv
  have hA : ∀ a : Nat, a < s.heap.size → ¬ (fun q : Nat => s.heap.size ≤ q) a := fun a h h' => Nat.not_le.mpr h h'
  have hA0 : ∀ a : Nat, a < s.heap.size → ¬ (fun _ : Nat => False) a := fun a _ h => h
  obtain ⟨t0, e0, T0⟩ := va_Tof (args := args) (s := s) (tm := .static RX0 "LOWEST" "[I") (ty := .int) (N := 13) (f := fun j => .int (s_low.getD j 0)) (A := fun _ => False) (by decide) (hs _ s_low_a) (va_eqt (hs _ s_low_l)) (fun j hj => va_eqt (hs _ (s_low_e j hj))) hA0
  have Z0 : va_Z RX0 "LOWEST" "[I" (.ref t0) (fun q => s.heap.size ≤ q) s s.heap := va_Zof (hts (Cond.laysStatic RX0 "LOWEST" "[I") (List.mem_of_getElem? (i := 821) (by decide +kernel))) (hts (Cond.initialized RX0) (List.mem_of_getElem? (i := 126) (by decide +kernel))) e0 hA
  obtain ⟨t1, e1, T1⟩ := va_Tof (args := args) (s := s) (tm := .static RX0 "HIGHEST" "[I") (ty := .int) (N := 13) (f := fun j => .int (s_high.getD j 0)) (A := fun _ => False) (by decide) (hs _ s_high_a) (va_eqt (hs _ s_high_l)) (fun j hj => va_eqt (hs _ (s_high_e j hj))) hA0
  have Z1 : va_Z RX0 "HIGHEST" "[I" (.ref t1) (fun q => s.heap.size ≤ q) s s.heap := va_Zof (hts (Cond.laysStatic RX0 "HIGHEST" "[I") (List.mem_of_getElem? (i := 823) (by decide +kernel))) (hts (Cond.initialized RX0) (List.mem_of_getElem? (i := 126) (by decide +kernel))) e1 hA
  obtain ⟨t2, e2, T2⟩ := va_Tof (args := args) (s := s) (tm := .static RX0 "SECOND" "[I") (ty := .int) (N := 13) (f := fun j => .int (s_sec.getD j 0)) (A := fun _ => False) (by decide) (hs _ s_sec_a) (va_eqt (hs _ s_sec_l)) (fun j hj => va_eqt (hs _ (s_sec_e j hj))) hA0
  have Z2 : va_Z RX0 "SECOND" "[I" (.ref t2) (fun q => s.heap.size ≤ q) s s.heap := va_Zof (hts (Cond.laysStatic RX0 "SECOND" "[I") (List.mem_of_getElem? (i := 825) (by decide +kernel))) (hts (Cond.initialized RX0) (List.mem_of_getElem? (i := 126) (by decide +kernel))) e2 hA
  have ZC : va_Z "java/lang/String" "COMPACT_STRINGS" "Z" (.int 1) (fun q => s.heap.size ≤ q) s s.heap := va_Zof (hts (Cond.laysStatic "java/lang/String" "COMPACT_STRINGS" "Z") (List.mem_of_getElem? (i := 758) (by decide +kernel))) (hts (Cond.initialized "java/lang/String") (List.mem_of_getElem? (i := 122) (by decide +kernel))) (va_eqt (hs _ s_cs)) hA
  have ZS : va_Zq "jdk/internal/util/Preconditions" "SIOOBE_FORMATTER" "Ljava/util/function/BiFunction;" (fun q => s.heap.size ≤ q) s s.heap := va_Zqof (hts (Cond.laysStatic "jdk/internal/util/Preconditions" "SIOOBE_FORMATTER" "Ljava/util/function/BiFunction;") (List.mem_of_getElem? (i := 766) (by decide +kernel))) (hts (Cond.initialized "jdk/internal/util/Preconditions") (List.mem_of_getElem? (i := 124) (by decide +kernel))) (hs _ s_si) hA
  obtain ⟨sq, isr, hsq⟩ : ∃ (sq : Nat) (isr : Prop), va_Z "jdk/internal/util/Preconditions" "SIOOBE_FORMATTER" "Ljava/util/function/BiFunction;" .null (fun q => s.heap.size ≤ q) s s.heap ∨ (isr ∧ va_Z "jdk/internal/util/Preconditions" "SIOOBE_FORMATTER" "Ljava/util/function/BiFunction;" (.ref sq) (fun q => s.heap.size ≤ q) s s.heap) := by
    rcases ZS with h | ⟨t, h⟩
    · exact ⟨0, False, Or.inl h⟩
    · exact ⟨t, True, Or.inr ⟨trivial, h⟩⟩
  obtain ⟨adK, adV, hSt, hEv⟩ := vk_Sof (args := args) (s := s) (N := 13) (tm := s_tm) (len := j_len) (byt := j_byt) (A := fun q => s.heap.size ≤ q) (fun i _ => j_len_lt i) (fun i hi => hs _ (s_t1 i hi)) (fun i hi => hs _ (s_t2 i hi)) (fun i hi => hs _ (s_t3 i hi)) (fun i hi => hs _ (s_t4 i hi)) (fun i hi j hj => hs _ (s_t5 i hi j hj)) (fun i j hi hj hne => (s_t6 i hi j hj hne).imp (fun h => hs _ h) (fun h => hs _ h)) hA
  obtain ⟨c0, iS0, hKn0⟩ := u_known (C := RX1) (T := TX1) (N := 15) (n := 15) hts (fun w hw => (List.mem_filter.mp (ws_in0 w hw)).1) (hts (Cond.instantiable RX1 15) (List.mem_of_getElem? (i := 217) (by decide +kernel)))
  obtain ⟨c1, iS1, hKn1⟩ := u_known (C := RX5) (T := TX5) (N := 15) (n := 15) hts (fun w hw => (List.mem_filter.mp (ws_in1 w hw)).1) (hts (Cond.instantiable RX5 15) (List.mem_of_getElem? (i := 143) (by decide +kernel)))
  obtain ⟨c2, iS2, hKn2⟩ := u_known (C := RX6) (T := TX6) (N := 3) (n := 3) hts (fun w hw => (List.mem_filter.mp (ws_in2 w hw)).1) (hts (Cond.instantiable RX6 3) (List.mem_of_getElem? (i := 137) (by decide +kernel)))
  obtain ⟨c3, iS3, hKn3⟩ := u_known (C := RX8) (T := TX8) (N := 13) (n := 13) hts (fun w hw => (List.mem_filter.mp (ws_in3 w hw)).1) (hts (Cond.instantiable RX8 13) (List.mem_of_getElem? (i := 344) (by decide +kernel)))
  obtain ⟨c4, iS4, hKn4⟩ := u_known (C := RX9) (T := TX9) (N := 8) (n := 8) hts (fun w hw => (List.mem_filter.mp (ws_in4 w hw)).1) (hts (Cond.instantiable RX9 8) (List.mem_of_getElem? (i := 288) (by decide +kernel)))
  obtain ⟨c5, iS5, hKn5⟩ := u_known (C := RX10) (T := TX10) (N := 17) (n := 17) hts (fun w hw => (List.mem_filter.mp (ws_in5 w hw)).1) (hts (Cond.instantiable RX10 17) (List.mem_of_getElem? (i := 1006) (by decide +kernel)))
  obtain ⟨c6, iS6, hKn6⟩ := u_known (C := RX11) (T := TX11) (N := 5) (n := 5) hts (fun w hw => (List.mem_filter.mp (ws_in6 w hw)).1) (hts (Cond.instantiable RX11 5) (List.mem_of_getElem? (i := 129) (by decide +kernel)))
  obtain ⟨c7, iS7, hKn7⟩ := u_known (C := RX12) (T := TX12) (N := 32) (n := 32) hts (fun w hw => (List.mem_filter.mp (ws_in7 w hw)).1) (hts (Cond.instantiable RX12 32) (List.mem_of_getElem? (i := 1213) (by decide +kernel)))
  obtain ⟨aI, kI, cI, i1, i2, i3⟩ := Cond.arrayClass_spec (hts (Cond.arrayClass .int) (List.mem_of_getElem? (i := 215) (by decide +kernel)))
  obtain ⟨aB, kB, cB, b1, b2, b3⟩ := Cond.arrayClass_spec (hts (Cond.arrayClass .byte) (List.mem_of_getElem? (i := 849) (by decide +kernel)))
  have hKc : ∀ (k : Nat) (q : vw_C), vwCl[k]? = some q → u_Kn s q.1 q.2.1 q.2.2 ([c0, c1, c2, c3, c4, c5, c6, c7].getD k c0) ([iS0, iS1, iS2, iS3, iS4, iS5, iS6, iS7].getD k iS0) := by
    intro k q hq
    match k, hq with
    | 0, hq => cases hq; exact hKn0
    | 1, hq => cases hq; exact hKn1
    | 2, hq => cases hq; exact hKn2
    | 3, hq => cases hq; exact hKn3
    | 4, hq => cases hq; exact hKn4
    | 5, hq => cases hq; exact hKn5
    | 6, hq => cases hq; exact hKn6
    | 7, hq => cases hq; exact hKn7
    | k + 8, hq => simp [vwCl] at hq
  refine ⟨(fun k => [c0, c1, c2, c3, c4, c5, c6, c7].getD k c0, fun k => [iS0, iS1, iS2, iS3, iS4, iS5, iS6, iS7].getD k iS0), aI, aB, s_io b t0 t1 t2 sq adK adV, s_Lv L isr, ⟨⟨hKc, ?_⟩, ?_, ?_⟩, ⟨Nat.le_refl _, fun _ _ => rfl, ?_, ?_, ?_, ?_⟩, Or.inl ⟨rfl, rfl, rfl⟩, rfl, ?_⟩
  · intro k q hq
    match k, hq with
    | 0, hq => cases hq; exact ⟨fun n z => ⟨fun k h => (by cases h), kI, i2, cI, i3⟩, i1⟩
    | 1, hq => cases hq; exact ⟨fun n z => ⟨fun k h => (by cases h), kB, b2, cB, b3⟩, b1⟩
    | k + 2, hq => simp at hq
  · intro n a h
    rcases h with ⟨-, rfl, rfl⟩ | ⟨-, rfl, rfl | rfl | rfl⟩ | ⟨h, -⟩ | ⟨h, -⟩ | ⟨h, -⟩
    · obtain ⟨scr, x1, x2, x3, x4, x5⟩ := hX
      exact ⟨scr, x1, x2, x3, Nat.le_of_eq x4.symm, by rw [x4]; rfl, x5, fun h => h⟩
    · exact T0
    · exact T1
    · exact T2
    all_goals cases h
  · have eK : ∀ i, i < 13 → s_io b t0 t1 t2 sq adK adV (320 + i) = adK i := fun i hi => by
      unfold s_io
      rw [if_neg (by omega), if_neg (by omega), if_neg (by omega), if_neg (by omega), if_neg (by omega), if_pos (by omega), Nat.add_sub_cancel_left]
    have eV : ∀ i, i < 13 → s_io b t0 t1 t2 sq adK adV (340 + i) = adV i := fun i hi => by
      unfold s_io
      rw [if_neg (by omega), if_neg (by omega), if_neg (by omega), if_neg (by omega), if_neg (by omega), if_neg (by omega), Nat.add_sub_cancel_left]
    refine ⟨⟨Or.inr (Or.inl ⟨rfl, rfl, Or.inl rfl⟩), Z0⟩, ⟨Or.inr (Or.inl ⟨rfl, rfl, Or.inr (Or.inl rfl)⟩), Z1⟩, ⟨Or.inr (Or.inl ⟨rfl, rfl, Or.inr (Or.inr rfl)⟩), Z2⟩, ZC, ?_, ⟨?_, ?_⟩, ?_, ?_, ?_, ?_⟩
    · rcases hsq with h | ⟨h, h'⟩
      · exact Or.inl h
      · exact Or.inr ⟨Or.inr (Or.inr (Or.inr (Or.inr ⟨rfl, rfl, rfl, h⟩))), h'⟩
    · intro i hi
      have := hSt.1 i hi
      simp only [eK i hi, eV i hi]
      exact this
    · intro i j hi hj he
      simp only [eK i hi, eK j hj] at he
      exact hSt.2 i j hi hj he
    · intro i hi
      exact ⟨Or.inr (Or.inr (Or.inl ⟨rfl, rfl, by omega, by omega⟩)), Or.inr (Or.inr (Or.inr (Or.inl ⟨rfl, by omega, by omega, by rw [Nat.add_sub_cancel_left]⟩)))⟩
    · intro q hq
      have hlt : q.2.2.1 < 13 ∧ s_tm q.2.2.1 = .string q.1 q.2.1 := by
        revert q
        decide +kernel
      rw [eK _ hlt.1]
      refine vk_R.of (A := args) (hts _ (s_sub s_strs _ (List.mem_map.mpr ⟨q, hq, rfl⟩))) ?_
      rw [← hlt.2]
      exact hEv _ hlt.1
    · intro q hq
      exact va_Nw.of rfl (hts _ (s_sub s_nest _ (List.mem_map.mpr ⟨q, hq, rfl⟩)))
    · intro n u h
      rcases h with ⟨h, -⟩ | ⟨h, -⟩ | ⟨-, h, h1, h2⟩ | ⟨h, -⟩ | ⟨h, -⟩
      · cases h
      · cases h
      · exact ⟨h, u - 320, by omega, by omega⟩
      · cases h
      · cases h
  · intro k n a k' n' a' h h' hk
    rcases h with ⟨rfl, -⟩ | ⟨rfl, -⟩ | ⟨rfl, -⟩ | ⟨rfl, -⟩ | ⟨rfl, -⟩ <;> omega
  · intro k n h
    rcases h with ⟨-, -, h⟩ | ⟨-, -, h⟩ | ⟨-, -, h, -⟩ | ⟨-, h, -⟩ | ⟨-, -, h, -⟩ <;> omega
  · intro k n a h
    have hlt : 3 ≤ k → k < 6 → s_io b t0 t1 t2 sq adK adV a < s.heap.size := fun _ _ => by
      rcases h with ⟨rfl, -, rfl⟩ | ⟨rfl, -, rfl | rfl | rfl⟩ | ⟨rfl, -, h1, h2⟩ | ⟨rfl, h1, h2, -⟩ | ⟨rfl, -⟩
      · exact hbl
      · obtain ⟨c, hc, -⟩ := T0; exact (Array.getElem?_eq_some_iff.mp hc).1
      · obtain ⟨c, hc, -⟩ := T1; exact (Array.getElem?_eq_some_iff.mp hc).1
      · obtain ⟨c, hc, -⟩ := T2; exact (Array.getElem?_eq_some_iff.mp hc).1
      · obtain ⟨c, hc, -⟩ := (hSt.1 (a - 320) (by omega)).1
        have e : s_io b t0 t1 t2 sq adK adV a = adK (a - 320) := by
          unfold s_io
          rw [if_neg (by omega), if_neg (by omega), if_neg (by omega), if_neg (by omega), if_neg (by omega), if_pos (by omega)]
        rw [e]; exact (Array.getElem?_eq_some_iff.mp hc).1
      · obtain ⟨c, hc, -⟩ := (hSt.1 (a - 340) (by omega)).2.2.2
        have e : s_io b t0 t1 t2 sq adK adV a = adV (a - 340) := by
          unfold s_io
          rw [if_neg (by omega), if_neg (by omega), if_neg (by omega), if_neg (by omega), if_neg (by omega), if_neg (by omega)]
        rw [e]; exact (Array.getElem?_eq_some_iff.mp hc).1
      · omega
    have hkr : 3 ≤ k ∧ k < 10 := by rcases h with ⟨rfl, -⟩ | ⟨rfl, -⟩ | ⟨rfl, -⟩ | ⟨rfl, -⟩ | ⟨rfl, -⟩ <;> omega
    exact ⟨by omega, by omega, ⟨fun _ => rfl, hlt⟩, fun ci => by omega⟩
  · intro k n a h
    rcases h with ⟨rfl, -, h⟩ | ⟨rfl, -, h⟩ | ⟨rfl, -, h, -⟩ | ⟨rfl, h, -⟩ | ⟨rfl, -, h, -⟩ <;> exact ⟨by omega, by omega, by omega, by omega⟩
  · intro k n a h
    rcases h with ⟨rfl, -, h⟩ | ⟨rfl, -, h⟩ | ⟨rfl, -, h, -⟩ | ⟨rfl, h, -⟩ | ⟨rfl, -, h, -⟩ <;> omega
