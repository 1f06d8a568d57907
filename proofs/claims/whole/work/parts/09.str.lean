def slenN (u : Nat) : Nat := j_len.getD (u - 321) 0
def slen (u : Nat) : Int32 := nI (slenN u)
def sch (u : Nat) (k : Int32) : Int32 := (j_byt.getD (u - 321) []).getD k.toNatClampNeg 0 &&& 255
section JR
variable {ρ : Type} {y : MethodName} {cc : ByteArray} {nL : Nat} {ret : Option FieldType} {fr lo : Nat} {em : ρ → Option j_V × j_M} {pc q : Nat} {ll : List (Nat × j_V)} {st : List j_V} {M : j_M} {X : Option ρ} {XI : Int32 → Option ρ} {XM : j_M → Option ρ}
theorem J_gval {ix i : Nat} (hi : i < 12) (d : decode cc pc = .ok (.getfield ix, 3)) (hlk : Cond.fieldLink y.cls ix "java/lang/String" "value" "[B" ∈ j_ws) (hq : pc + 3 = q) (h : J y cc nL ret fr lo em q ll (.inr (5, j_len.getD i 0, 341 + i) :: st) M X) : J y cc nL ret fr lo em pc ll (.inr (4, 0, 321 + i) :: st) M X := by
  subst hq
  intro r hr
  refine ⟨(h r hr).1, ?_⟩
  intro p l e s m args below meth c D aI aB H0 io Lv K0 mc ms H locs cells slots la cx hS hH hl hll hst hlo h1 h2
  obtain ⟨-, -, ⟨cf, k, i9, f, cell, z1, z2, z3, z4, z5, z6⟩, -⟩ := hS.2.2.2.2.2.2.2.1.1 i hi
  have K := (h r hr).2 p l e s m args below meth c D aI aB H0 io Lv K0 mc ms H locs cells slots la cx hS hH hl hll (j_live_c (fun _ => (hS.2.2.2.2.2.2.2.2.1 i hi).2) (j_live_t hst)) hlo h1 h2
  rw [List.map_cons, j_sv (by decide)] at K ⊢
  exact W.getf cx.1 cx.2.1 cx.2.2.2.2.2.1 (cx.2.2.2.2.1 _ hlk) z1 z2 (by rw [hH.2.1 _ (Array.getElem?_eq_some_iff.mp z3).1]; exact z3) z4 z5 rfl rfl d K
theorem J_gcod {ix i : Nat} (hi : i < 12) (d : decode cc pc = .ok (.getfield ix, 3)) (hlk : Cond.fieldLink y.cls ix "java/lang/String" "coder" "B" ∈ j_ws) (hq : pc + 3 = q) (h : J y cc nL ret fr lo em q ll (.inl 0 :: st) M X) : J y cc nL ret fr lo em pc ll (.inr (4, 0, 321 + i) :: st) M X := by
  subst hq
  intro r hr
  refine ⟨(h r hr).1, ?_⟩
  intro p l e s m args below meth c D aI aB H0 io Lv K0 mc ms H locs cells slots la cx hS hH hl hll hst hlo h1 h2
  obtain ⟨-, ⟨cf, k, i9, f, cell, z1, z2, z3, z4, z5, z6⟩, -, -⟩ := hS.2.2.2.2.2.2.2.1.1 i hi
  have K := (h r hr).2 p l e s m args below meth c D aI aB H0 io Lv K0 mc ms H locs cells slots la cx hS hH hl hll (j_live_c (j_live_i _) (j_live_t hst)) hlo h1 h2
  rw [List.map_cons] at K ⊢
  rw [j_sv (by decide)]
  exact W.getf cx.1 cx.2.1 cx.2.2.2.2.2.1 (cx.2.2.2.2.1 _ hlk) z1 z2 (by rw [hH.2.1 _ (Array.getElem?_eq_some_iff.mp z3).1]; exact z3) z4 z5 rfl rfl d K
theorem J_alen5 {i : Nat} (hi : i < 12) (d : decode cc pc = .ok (.arraylength, 1)) (hq : pc + 1 = q) (h : J y cc nL ret fr lo em q ll (.inl (nI (j_len.getD i 0)) :: st) M X) : J y cc nL ret fr lo em pc ll (.inr (5, j_len.getD i 0, 341 + i) :: st) M X := by
  subst hq
  intro r hr
  refine ⟨(h r hr).1, ?_⟩
  intro p l e s m args below meth c D aI aB H0 io Lv K0 mc ms H locs cells slots la cx hS hH hl hll hst hlo h1 h2
  obtain ⟨-, -, -, ⟨cell, z1, z2, z3, z4, z5, z6, z7⟩⟩ := hS.2.2.2.2.2.2.2.1.1 i hi
  have K := (h r hr).2 p l e s m args below meth c D aI aB H0 io Lv K0 mc ms H locs cells slots la cx hS hH hl hll (j_live_c (j_live_i _) (j_live_t hst)) hlo h1 h2
  rw [List.map_cons] at K ⊢
  rw [j_sv (by decide)]
  exact W.alen (n := nI (j_len.getD i 0)) cx.1 cx.2.1 (by rw [hH.2.1 _ (Array.getElem?_eq_some_iff.mp z1).1]; exact z1) z2 z5 rfl rfl d K
theorem J_bald5 {i : Nat} {k : Int32} (hi : i < 12) (d : decode cc pc = .ok (.baload, 1)) (hq : pc + 1 = q) (h : J y cc nL ret fr lo em q ll (.inl ((j_byt.getD i []).getD k.toNatClampNeg 0) :: st) M X) : J y cc nL ret fr lo em pc ll (.inl k :: .inr (5, j_len.getD i 0, 341 + i) :: st) M (gd k (j_len.getD i 0) X) := by
  subst hq
  intro r hr
  obtain ⟨hin, hr⟩ := gd_some hr
  refine ⟨(h r hr).1, ?_⟩
  intro p l e s m args below meth c D aI aB H0 io Lv K0 mc ms H locs cells slots la cx hS hH hl hll hst hlo h1 h2
  have hlt : k.toNatClampNeg < j_len.getD i 0 := Nat.not_le.mp fun q => hin (Or.inr q)
  obtain ⟨-, -, -, ⟨cell, z1, z2, z3, z4, z5, z6, z7⟩⟩ := hS.2.2.2.2.2.2.2.1.1 i hi
  have K := (h r hr).2 p l e s m args below meth c D aI aB H0 io Lv K0 mc ms H locs cells slots la cx hS hH hl hll (j_live_c (j_live_i _) (j_live_t (j_live_t hst))) hlo h1 h2
  rw [List.map_cons, List.map_cons, j_sv (by decide)]
  rw [List.map_cons] at K
  exact W.bald cx.1 cx.2.1 (by rw [hH.2.1 _ (Array.getElem?_eq_some_iff.mp z1).1]; exact z1) z2 z3 (fun e9 => e9.elim (fun e9 => hin (Or.inl e9)) (fun e9 => by omega)) (z6 _ hlt) rfl rfl d K
theorem J_gcs {ix : Nat} (d : decode cc pc = .ok (.getstatic ix, 3)) (hlk : Cond.fieldLink y.cls ix "java/lang/String" "COMPACT_STRINGS" "Z" ∈ j_ws) (hq : pc + 3 = q) (h : J y cc nL ret fr lo em q ll (.inl 1 :: st) M X) : J y cc nL ret fr lo em pc ll st M X := by
  subst hq
  intro r hr
  refine ⟨(h r hr).1, ?_⟩
  intro p l e s m args below meth c D aI aB H0 io Lv K0 mc ms H locs cells slots la cx hS hH hl hll hst hlo h1 h2
  obtain ⟨cf, kf, fi, f9, b9, cell, z1, z2, z3, z4, z5, z6, z7, z8⟩ := hS.2.2.2.2.2.1
  have K := (h r hr).2 p l e s m args below meth c D aI aB H0 io Lv K0 mc ms H locs cells slots la cx hS hH hl hll (j_live_c (j_live_i _) hst) hlo h1 h2
  rw [List.map_cons] at K
  exact W.gets cx.1 cx.2.1 cx.2.2.2.2.2.1 (cx.2.2.2.2.1 _ hlk) z1 z2 z3 z4 (by rw [hH.2.1 b9 (Array.getElem?_eq_some_iff.mp z5).1]; exact z5) (fun e9 => by rw [e9] at z6; cases z6) z7 rfl d K
theorem J_gsio {ix : Nat} (d : decode cc pc = .ok (.getstatic ix, 3)) (hlk : Cond.fieldLink y.cls ix "jdk/internal/util/Preconditions" "SIOOBE_FORMATTER" "Ljava/util/function/BiFunction;" ∈ j_ws) (hq : pc + 3 = q) (h : ∀ kq, J y cc nL ret fr lo em q ll (.inr (kq, 0, 360) :: st) M X) : J y cc nL ret fr lo em pc ll st M X := by
  subst hq
  intro r hr
  refine ⟨(h 0 r hr).1, ?_⟩
  intro p l e s m args below meth c D aI aB H0 io Lv K0 mc ms H locs cells slots la cx hS hH hl hll hst hlo h1 h2
  rcases hS.2.2.2.2.2.2.1 with ⟨cf, kf, fi, f9, b9, cell, z1, z2, z3, z4, z5, z6, z7, z8⟩ | ⟨hLv, cf, kf, fi, f9, b9, cell, z1, z2, z3, z4, z5, z6, z7, z8⟩
  · have K := (h 0 r hr).2 p l e s m args below meth c D aI aB H0 io Lv K0 mc ms H locs cells slots la cx hS hH hl hll (j_live_c (fun h9 => absurd rfl h9) hst) hlo h1 h2
    exact W.gets cx.1 cx.2.1 cx.2.2.2.2.2.1 (cx.2.2.2.2.1 _ hlk) z1 z2 z3 z4 (by rw [hH.2.1 b9 (Array.getElem?_eq_some_iff.mp z5).1]; exact z5) (fun e9 => by rw [e9] at z6; cases z6) z7 rfl d K
  · have K := (h 6 r hr).2 p l e s m args below meth c D aI aB H0 io Lv K0 mc ms H locs cells slots la cx hS hH hl hll (j_live_c (fun _ => hLv) hst) hlo h1 h2
    exact W.gets cx.1 cx.2.1 cx.2.2.2.2.2.1 (cx.2.2.2.2.1 _ hlk) z1 z2 z3 z4 (by rw [hH.2.1 b9 (Array.getElem?_eq_some_iff.mp z5).1]; exact z5) (fun e9 => by rw [e9] at z6; cases z6) z7 rfl d K
theorem J_nret {ty : FieldType} {v : Int32} (d : decode cc pc = .ok (.ireturn, 1)) (hv : narrow ty (.int v) = .int v) : J y cc nL (some ty) fr lo j_ei pc ll [.inl v] M (some (v, M)) := by
  intro r hr
  cases hr
  refine ⟨j_le.rfl, ?_⟩
  intro p l e s m args below meth c D aI aB H0 io Lv K0 mc ms H locs cells slots la cx hS hH hl hll hst hlo h1 h2
  refine W.widen (k := mc) (n := ms) (by simpa [j_ei] using h1) (by simpa [j_ei] using h2) ?_
  have hlocks := cx.2.2.2.2.2.2
  exact W.zret (ty := ty) cx.1 cx.2.1 cx.2.2.1 hv (fun t ht hW => ⟨io, Lv, j_ext.rfl, by rw [ht]; exact hH, fun x hx => by cases hx; trivial, rfl⟩) hlo d
end JR
theorem dJ0_length_8abf5_0 : decode cJ0_length_8abf5 0 = .ok (.aload_n 0, 1) := by decide +kernel
theorem dJ0_length_8abf5_1 : decode cJ0_length_8abf5 1 = .ok (.getfield 9, 3) := by decide +kernel
theorem dJ0_length_8abf5_4 : decode cJ0_length_8abf5 4 = .ok (.arraylength, 1) := by decide +kernel
theorem dJ0_length_8abf5_5 : decode cJ0_length_8abf5 5 = .ok (.aload_n 0, 1) := by decide +kernel
theorem dJ0_length_8abf5_6 : decode cJ0_length_8abf5 6 = .ok (.invokevirtual 335, 3) := by decide +kernel
theorem dJ0_length_8abf5_9 : decode cJ0_length_8abf5 9 = .ok (.ishr, 1) := by decide +kernel
theorem dJ0_length_8abf5_10 : decode cJ0_length_8abf5 10 = .ok (.ireturn, 1) := by decide +kernel
theorem dJ0_coder_7d493_0 : decode cJ0_coder_7d493 0 = .ok (.getstatic 38, 3) := by decide +kernel
theorem dJ0_coder_7d493_3 : decode cJ0_coder_7d493 3 = .ok (.ifCond .eq 10, 3) := by decide +kernel
theorem dJ0_coder_7d493_6 : decode cJ0_coder_7d493 6 = .ok (.aload_n 0, 1) := by decide +kernel
theorem dJ0_coder_7d493_7 : decode cJ0_coder_7d493 7 = .ok (.getfield 15, 3) := by decide +kernel
theorem dJ0_coder_7d493_10 : decode cJ0_coder_7d493 10 = .ok (.goto 4, 3) := by decide +kernel
theorem dJ0_coder_7d493_13 : decode cJ0_coder_7d493 13 = .ok (.iconst 1, 1) := by decide +kernel
theorem dJ0_coder_7d493_14 : decode cJ0_coder_7d493 14 = .ok (.ireturn, 1) := by decide +kernel
theorem dJ0_charAt_5068e_0 : decode cJ0_charAt_5068e 0 = .ok (.aload_n 0, 1) := by decide +kernel
theorem dJ0_charAt_5068e_1 : decode cJ0_charAt_5068e 1 = .ok (.invokevirtual 492, 3) := by decide +kernel
theorem dJ0_charAt_5068e_4 : decode cJ0_charAt_5068e 4 = .ok (.ifCond .eq 12, 3) := by decide +kernel
theorem dJ0_charAt_5068e_7 : decode cJ0_charAt_5068e 7 = .ok (.aload_n 0, 1) := by decide +kernel
theorem dJ0_charAt_5068e_8 : decode cJ0_charAt_5068e 8 = .ok (.getfield 9, 3) := by decide +kernel
theorem dJ0_charAt_5068e_11 : decode cJ0_charAt_5068e 11 = .ok (.iload_n 1, 1) := by decide +kernel
theorem dJ0_charAt_5068e_12 : decode cJ0_charAt_5068e 12 = .ok (.invokestatic 495, 3) := by decide +kernel
theorem dJ0_charAt_5068e_15 : decode cJ0_charAt_5068e 15 = .ok (.ireturn, 1) := by decide +kernel
theorem dJ0_charAt_5068e_16 : decode cJ0_charAt_5068e 16 = .ok (.aload_n 0, 1) := by decide +kernel
theorem dJ0_charAt_5068e_17 : decode cJ0_charAt_5068e 17 = .ok (.getfield 9, 3) := by decide +kernel
theorem dJ0_charAt_5068e_20 : decode cJ0_charAt_5068e 20 = .ok (.iload_n 1, 1) := by decide +kernel
theorem dJ0_charAt_5068e_21 : decode cJ0_charAt_5068e 21 = .ok (.invokestatic 498, 3) := by decide +kernel
theorem dJ0_charAt_5068e_24 : decode cJ0_charAt_5068e 24 = .ok (.ireturn, 1) := by decide +kernel
theorem dJ0_isLatin1_aae02_0 : decode cJ0_isLatin1_aae02 0 = .ok (.getstatic 38, 3) := by decide +kernel
theorem dJ0_isLatin1_aae02_3 : decode cJ0_isLatin1_aae02 3 = .ok (.ifCond .eq 14, 3) := by decide +kernel
theorem dJ0_isLatin1_aae02_6 : decode cJ0_isLatin1_aae02 6 = .ok (.aload_n 0, 1) := by decide +kernel
theorem dJ0_isLatin1_aae02_7 : decode cJ0_isLatin1_aae02 7 = .ok (.getfield 15, 3) := by decide +kernel
theorem dJ0_isLatin1_aae02_10 : decode cJ0_isLatin1_aae02 10 = .ok (.ifCond .ne 7, 3) := by decide +kernel
theorem dJ0_isLatin1_aae02_13 : decode cJ0_isLatin1_aae02 13 = .ok (.iconst 1, 1) := by decide +kernel
theorem dJ0_isLatin1_aae02_14 : decode cJ0_isLatin1_aae02 14 = .ok (.goto 4, 3) := by decide +kernel
theorem dJ0_isLatin1_aae02_17 : decode cJ0_isLatin1_aae02 17 = .ok (.iconst 0, 1) := by decide +kernel
theorem dJ0_isLatin1_aae02_18 : decode cJ0_isLatin1_aae02 18 = .ok (.ireturn, 1) := by decide +kernel
theorem dJ0_checkIndex_df160_0 : decode cJ0_checkIndex_df160 0 = .ok (.iload_n 0, 1) := by decide +kernel
theorem dJ0_checkIndex_df160_1 : decode cJ0_checkIndex_df160 1 = .ok (.iload_n 1, 1) := by decide +kernel
theorem dJ0_checkIndex_df160_2 : decode cJ0_checkIndex_df160 2 = .ok (.getstatic 1053, 3) := by decide +kernel
theorem dJ0_checkIndex_df160_5 : decode cJ0_checkIndex_df160 5 = .ok (.invokestatic 1059, 3) := by decide +kernel
theorem dJ0_checkIndex_df160_8 : decode cJ0_checkIndex_df160 8 = .ok (.pop, 1) := by decide +kernel
theorem dJ0_checkIndex_df160_9 : decode cJ0_checkIndex_df160 9 = .ok (.return_, 1) := by decide +kernel
theorem dJ1_charAt_3b067_0 : decode cJ1_charAt_3b067 0 = .ok (.iload_n 1, 1) := by decide +kernel
theorem dJ1_charAt_3b067_1 : decode cJ1_charAt_3b067 1 = .ok (.aload_n 0, 1) := by decide +kernel
theorem dJ1_charAt_3b067_2 : decode cJ1_charAt_3b067 2 = .ok (.arraylength, 1) := by decide +kernel
theorem dJ1_charAt_3b067_3 : decode cJ1_charAt_3b067 3 = .ok (.invokestatic 9, 3) := by decide +kernel
theorem dJ1_charAt_3b067_6 : decode cJ1_charAt_3b067 6 = .ok (.aload_n 0, 1) := by decide +kernel
theorem dJ1_charAt_3b067_7 : decode cJ1_charAt_3b067 7 = .ok (.iload_n 1, 1) := by decide +kernel
theorem dJ1_charAt_3b067_8 : decode cJ1_charAt_3b067 8 = .ok (.baload, 1) := by decide +kernel
theorem dJ1_charAt_3b067_9 : decode cJ1_charAt_3b067 9 = .ok (.sipush 255, 3) := by decide +kernel
theorem dJ1_charAt_3b067_12 : decode cJ1_charAt_3b067 12 = .ok (.iand, 1) := by decide +kernel
theorem dJ1_charAt_3b067_13 : decode cJ1_charAt_3b067 13 = .ok (.i2c, 1) := by decide +kernel
theorem dJ1_charAt_3b067_14 : decode cJ1_charAt_3b067 14 = .ok (.ireturn, 1) := by decide +kernel
theorem dJ3_checkIndex_8e157_0 : decode cJ3_checkIndex_8e157 0 = .ok (.iload_n 0, 1) := by decide +kernel
theorem dJ3_checkIndex_8e157_1 : decode cJ3_checkIndex_8e157 1 = .ok (.ifCond .lt 8, 3) := by decide +kernel
theorem dJ3_checkIndex_8e157_4 : decode cJ3_checkIndex_8e157 4 = .ok (.iload_n 0, 1) := by decide +kernel
theorem dJ3_checkIndex_8e157_5 : decode cJ3_checkIndex_8e157 5 = .ok (.iload_n 1, 1) := by decide +kernel
theorem dJ3_checkIndex_8e157_6 : decode cJ3_checkIndex_8e157 6 = .ok (.if_icmp .lt 10, 3) := by decide +kernel
theorem dJ3_checkIndex_8e157_9 : decode cJ3_checkIndex_8e157 9 = .ok (.aload_n 2, 1) := by decide +kernel
theorem dJ3_checkIndex_8e157_10 : decode cJ3_checkIndex_8e157 10 = .ok (.iload_n 0, 1) := by decide +kernel
theorem dJ3_checkIndex_8e157_11 : decode cJ3_checkIndex_8e157 11 = .ok (.iload_n 1, 1) := by decide +kernel
theorem dJ3_checkIndex_8e157_12 : decode cJ3_checkIndex_8e157 12 = .ok (.invokestatic 95, 3) := by decide +kernel
theorem dJ3_checkIndex_8e157_15 : decode cJ3_checkIndex_8e157 15 = .ok (.athrow, 1) := by decide +kernel
theorem dJ3_checkIndex_8e157_16 : decode cJ3_checkIndex_8e157 16 = .ok (.iload_n 0, 1) := by decide +kernel
theorem dJ3_checkIndex_8e157_17 : decode cJ3_checkIndex_8e157 17 = .ok (.ireturn, 1) := by decide +kernel
theorem w_sio : Cond.fieldLink RJ0 1053 "jdk/internal/util/Preconditions" "SIOOBE_FORMATTER" "Ljava/util/function/BiFunction;" ∈ j_ws := j_in 1559 (by decide +kernel) (by decide +kernel)
theorem w_cs : Cond.fieldLink RJ0 38 "java/lang/String" "COMPACT_STRINGS" "Z" ∈ j_ws := j_in 1543 (by decide +kernel) (by decide +kernel)
theorem w_co : Cond.fieldLink RJ0 15 "java/lang/String" "coder" "B" ∈ j_ws := j_in 1813 (by decide +kernel) (by decide +kernel)
theorem w_va : Cond.fieldLink RJ0 9 "java/lang/String" "value" "[B" ∈ j_ws := j_in 1812 (by decide +kernel) (by decide +kernel)
theorem cb_J0_le : j_CB yJ0_length_8abf5 cJ0_length_8abf5 1 (some .int) 0 := ⟨by decide +kernel, j_in 1538 (by decide +kernel) (by decide +kernel), j_in 122 (by decide +kernel) (by decide +kernel), by decide +kernel, by decide +kernel, by decide +kernel⟩
theorem cb_J0_co : j_CB yJ0_coder_7d493 cJ0_coder_7d493 1 (some .byte) 0 := ⟨by decide +kernel, j_in 1542 (by decide +kernel) (by decide +kernel), j_in 122 (by decide +kernel) (by decide +kernel), by decide +kernel, by decide +kernel, by decide +kernel⟩
theorem cb_J0_ca : j_CB yJ0_charAt_5068e cJ0_charAt_5068e 2 (some .char) 1 := ⟨by decide +kernel, j_in 1548 (by decide +kernel) (by decide +kernel), j_in 122 (by decide +kernel) (by decide +kernel), by decide +kernel, by decide +kernel, by decide +kernel⟩
theorem cb_J0_il : j_CB yJ0_isLatin1_aae02 cJ0_isLatin1_aae02 1 (some .boolean) 0 := ⟨by decide +kernel, j_in 1552 (by decide +kernel) (by decide +kernel), j_in 122 (by decide +kernel) (by decide +kernel), by decide +kernel, by decide +kernel, by decide +kernel⟩
theorem cb_J0_ci : j_CB yJ0_checkIndex_df160 cJ0_checkIndex_df160 2 none 2 := ⟨by decide +kernel, j_in 1558 (by decide +kernel) (by decide +kernel), j_in 122 (by decide +kernel) (by decide +kernel), by decide +kernel, by decide +kernel, by decide +kernel⟩
theorem cb_J1_ca : j_CB yJ1_charAt_3b067 cJ1_charAt_3b067 2 (some .char) 2 := ⟨by decide +kernel, j_in 1555 (by decide +kernel) (by decide +kernel), j_in 123 (by decide +kernel) (by decide +kernel), by decide +kernel, by decide +kernel, by decide +kernel⟩
theorem cb_J3_ci : j_CB yJ3_checkIndex_8e157 cJ3_checkIndex_8e157 3 (some .int) 3 := ⟨by decide +kernel, j_in 1563 (by decide +kernel) (by decide +kernel), j_in 124 (by decide +kernel) (by decide +kernel), by decide +kernel, by decide +kernel, by decide +kernel⟩
theorem cs_J3_ci : j_CS RJ0 1059 yJ3_checkIndex_8e157 := ⟨Or.inl (j_in 1561 (by decide +kernel) (by decide +kernel)), j_in 1562 (by decide +kernel) (by decide +kernel)⟩
theorem cs_J0_ci : j_CS RJ1 9 yJ0_checkIndex_df160 := ⟨Or.inl (j_in 1556 (by decide +kernel) (by decide +kernel)), j_in 1557 (by decide +kernel) (by decide +kernel)⟩
theorem cs_J1_ca : j_CS RJ0 495 yJ1_charAt_3b067 := ⟨Or.inl (j_in 1553 (by decide +kernel) (by decide +kernel)), j_in 1554 (by decide +kernel) (by decide +kernel)⟩
theorem cv_J0_co : j_CV RJ0 335 yJ0_coder_7d493 := ⟨Or.inl (j_in 1539 (by decide +kernel) (by decide +kernel)), j_in 1540 (by decide +kernel) (by decide +kernel), j_in 1541 (by decide +kernel) (by decide +kernel)⟩
theorem cv_J0_il : j_CV RJ0 492 yJ0_isLatin1_aae02 := ⟨Or.inl (j_in 1549 (by decide +kernel) (by decide +kernel)), j_in 1550 (by decide +kernel) (by decide +kernel), j_in 1551 (by decide +kernel) (by decide +kernel)⟩
/-- Preconditions.checkIndex, where it doesn't throw -/
def xJ3_ci (l0 l1 : Int32) (M : j_M) : Option (Int32 × j_M) := if l0 < 0 then none else (if l0 < l1 then some (l0, M) else none)
theorem tJ3_ci (l0 l1 : Int32) (kq : Nat) (M : j_M) : J (ρ := Int32 × j_M) yJ3_checkIndex_8e157 cJ3_checkIndex_8e157 3 (some .int) 0 0 j_ei 0 [(0, .inl l0), (1, .inl l1), (2, .inr (kq, 0, 360))] [] M (xJ3_ci l0 l1 M) := by
  unfold xJ3_ci
  refine K_iload_n (q := 1) 0 dJ3_checkIndex_8e157_0 rfl rfl rfl ?_
  refine K_if_lt (q := 4) (tgt := 9) dJ3_checkIndex_8e157_1 rfl J_none rfl ?_
  refine K_iload_n (q := 5) 0 dJ3_checkIndex_8e157_4 rfl rfl rfl ?_
  refine K_iload_n (q := 6) 1 dJ3_checkIndex_8e157_5 rfl rfl rfl ?_
  refine K_icmp_lt (q := 9) (tgt := 16) dJ3_checkIndex_8e157_6 rfl ?_ rfl J_none
  refine K_iload_n (q := 17) 0 dJ3_checkIndex_8e157_16 rfl rfl rfl ?_
  exact J_iret dJ3_checkIndex_8e157_17
def xJ0_ci (l0 l1 : Int32) (M : j_M) : Option j_M := obi (xJ3_ci l0 l1 M) fun _ M1 => some M1
theorem tJ0_ci (l0 l1 : Int32) (M : j_M) : J (ρ := j_M) yJ0_checkIndex_df160 cJ0_checkIndex_df160 2 none 1 30 j_ev 0 [(0, .inl l0), (1, .inl l1)] [] M (xJ0_ci l0 l1 M) := by
  unfold xJ0_ci
  refine K_iload_n (q := 1) 0 dJ0_checkIndex_df160_0 rfl rfl rfl ?_
  refine K_iload_n (q := 2) 1 dJ0_checkIndex_df160_1 rfl rfl rfl ?_
  refine J_gsio (q := 5) dJ0_checkIndex_df160_2 w_sio rfl (fun kq => ?_)
  refine K_csi (q := 8) [.inl l0, .inl l1, .inr (kq, 0, 360)] dJ0_checkIndex_df160_5 cb_J3_ci cs_J3_ci rfl (Nat.le_of_ble_eq_true rfl) ⟨by decide, by decide⟩ (Nat.le_of_ble_eq_true rfl) rfl (tJ3_ci l0 l1 kq M) rfl (fun v M1 => ?_)
  refine K_pop (q := 9) dJ0_checkIndex_df160_8 rfl ?_
  exact J_vret dJ0_checkIndex_df160_9
def xJ1_ca (i : Nat) (k : Int32) (M : j_M) : Option (Int32 × j_M) := obv (xJ0_ci k (nI (j_len.getD i 0)) M) fun M1 => gd k (j_len.getD i 0) (some ((((j_byt.getD i []).getD k.toNatClampNeg 0 &&& (255 : Int32)).toUInt32 % 65536).toInt32, M1))
theorem tJ1_ca (i : Nat) (hi : i < 12) (k : Int32) (M : j_M) : J (ρ := Int32 × j_M) yJ1_charAt_3b067 cJ1_charAt_3b067 2 (some .char) 2 60 j_ei 0 [(0, .inr (5, j_len.getD i 0, 341 + i)), (1, .inl k)] [] M (xJ1_ca i k M) := by
  unfold xJ1_ca
  refine K_iload_n (q := 1) 1 dJ1_charAt_3b067_0 rfl rfl rfl ?_
  refine K_aload_n (q := 2) 0 dJ1_charAt_3b067_1 rfl rfl rfl ?_
  refine J_alen5 (q := 3) hi dJ1_charAt_3b067_2 rfl ?_
  refine K_csv (q := 6) [.inl k, .inl (nI (j_len.getD i 0))] dJ1_charAt_3b067_3 cb_J0_ci cs_J0_ci rfl (Nat.le_of_ble_eq_true rfl) ⟨by decide, by decide⟩ (Nat.le_of_ble_eq_true rfl) rfl (tJ0_ci k (nI (j_len.getD i 0)) M) rfl (fun M1 => ?_)
  refine K_aload_n (q := 7) 0 dJ1_charAt_3b067_6 rfl rfl rfl ?_
  refine K_iload_n (q := 8) 1 dJ1_charAt_3b067_7 rfl rfl rfl ?_
  refine J_bald5 (q := 9) hi dJ1_charAt_3b067_8 rfl ?_
  refine K_sipush (q := 12) (v := 255) dJ1_charAt_3b067_9 rfl rfl ?_
  refine K_iand (q := 13) dJ1_charAt_3b067_12 rfl ?_
  refine K_i2c (q := 14) dJ1_charAt_3b067_13 rfl ?_
  exact J_nret dJ1_charAt_3b067_14 (by rw [sc_c2]; exact sc_nar _)
theorem tJ0_il (i : Nat) (hi : i < 12) (M : j_M) : J (ρ := Int32 × j_M) yJ0_isLatin1_aae02 cJ0_isLatin1_aae02 1 (some .boolean) 0 0 j_ei 0 [(0, .inr (4, 0, 321 + i))] [] M (some (1, M)) := by
  refine J_gcs (q := 3) dJ0_isLatin1_aae02_0 w_cs rfl ?_
  have e1 : (some ((1 : Int32), M) : Option (Int32 × j_M)) = if (1 : Int32) = 0 then none else some (1, M) := rfl
  rw [e1]
  refine K_if_eq (q := 6) (tgt := 17) dJ0_isLatin1_aae02_3 rfl J_none rfl ?_
  refine K_aload_n (q := 7) 0 dJ0_isLatin1_aae02_6 rfl rfl rfl ?_
  refine J_gcod (q := 10) hi dJ0_isLatin1_aae02_7 w_co rfl ?_
  have e2 : (some ((1 : Int32), M) : Option (Int32 × j_M)) = if (0 : Int32) = 0 then some (1, M) else none := rfl
  rw [e2]
  refine K_if_ne (q := 13) (tgt := 17) dJ0_isLatin1_aae02_10 rfl J_none rfl ?_
  refine K_iconst (q := 14) (v := 1) dJ0_isLatin1_aae02_13 rfl rfl ?_
  refine J_goto (tgt := 18) dJ0_isLatin1_aae02_14 rfl ?_
  exact J_zret dJ0_isLatin1_aae02_18 (by decide)
theorem tJ0_co (i : Nat) (hi : i < 12) (M : j_M) : J (ρ := Int32 × j_M) yJ0_coder_7d493 cJ0_coder_7d493 1 (some .byte) 0 0 j_ei 0 [(0, .inr (4, 0, 321 + i))] [] M (some (0, M)) := by
  refine J_gcs (q := 3) dJ0_coder_7d493_0 w_cs rfl ?_
  have e1 : (some ((0 : Int32), M) : Option (Int32 × j_M)) = if (1 : Int32) = 0 then none else some (0, M) := rfl
  rw [e1]
  refine K_if_eq (q := 6) (tgt := 13) dJ0_coder_7d493_3 rfl J_none rfl ?_
  refine K_aload_n (q := 7) 0 dJ0_coder_7d493_6 rfl rfl rfl ?_
  refine J_gcod (q := 10) hi dJ0_coder_7d493_7 w_co rfl ?_
  refine J_goto (tgt := 14) dJ0_coder_7d493_10 rfl ?_
  exact J_nret dJ0_coder_7d493_14 rfl
theorem rc_s (i : Nat) (hi : i < 12) : j_RC (4, 0, 321 + i) RJ0 := Or.inr ⟨rfl, rfl, i, hi, rfl⟩
theorem j_len_lt (i : Nat) : j_len.getD i 0 < 2 ^ 31 := by
  by_cases h : i < 12
  · have : ∀ i, i < 12 → j_len.getD i 0 < 2 ^ 31 := by decide
    exact this i h
  · have : j_len.getD i 0 = 0 := by
      rw [List.getD_eq_getElem?_getD, List.getElem?_eq_none (by show j_len.length ≤ i; have : j_len.length = 12 := rfl; omega)]
      rfl
    rw [this]; decide
theorem tJ0_le (i : Nat) (hi : i < 12) (M : j_M) : J (ρ := Int32 × j_M) yJ0_length_8abf5 cJ0_length_8abf5 1 (some .int) 1 30 j_ei 0 [(0, .inr (4, 0, 321 + i))] [] M (some (nI (j_len.getD i 0), M)) := by
  refine K_aload_n (q := 1) 0 dJ0_length_8abf5_0 rfl rfl rfl ?_
  refine J_gval (q := 4) hi dJ0_length_8abf5_1 w_va rfl ?_
  refine J_alen5 (q := 5) hi dJ0_length_8abf5_4 rfl ?_
  refine K_aload_n (q := 6) 0 dJ0_length_8abf5_5 rfl rfl rfl ?_
  have e1 : (some (nI (j_len.getD i 0), M) : Option (Int32 × j_M)) = obi (some (0, M)) (fun v M1 => some (nI (j_len.getD i 0) >>> (v &&& 31), M1)) := by
    show _ = some (nI (j_len.getD i 0) >>> ((0 : Int32) &&& 31), M)
    rw [sc_shr0 (j_len_lt i)]
  rw [e1]
  refine K_cvi (q := 9) [] dJ0_length_8abf5_6 cb_J0_co cv_J0_co (rc_s i hi) (show (4 : Nat) ≠ 0 by decide) rfl (Nat.le_of_ble_eq_true rfl) ⟨by decide, by decide⟩ (Nat.le_of_ble_eq_true rfl) rfl (tJ0_co i hi M) rfl (fun v M1 => ?_)
  refine K_ishr (q := 10) dJ0_length_8abf5_9 rfl ?_
  exact J_iret dJ0_length_8abf5_10
theorem tJ0_ca (i : Nat) (hi : i < 12) (k : Int32) (M : j_M) : J (ρ := Int32 × j_M) yJ0_charAt_5068e cJ0_charAt_5068e 2 (some .char) 3 90 j_ei 0 [(0, .inr (4, 0, 321 + i)), (1, .inl k)] [] M (obi (xJ1_ca i k M) fun v M1 => if narrow .char (.int v) = .int v then some (v, M1) else none) := by
  refine K_aload_n (q := 1) 0 dJ0_charAt_5068e_0 rfl rfl rfl ?_
  have e1 : (obi (xJ1_ca i k M) fun v M1 => if narrow .char (.int v) = .int v then some (v, M1) else none) = obi (some (1, M)) (fun v M1 => if v = 0 then none else obi (xJ1_ca i k M1) fun v M1 => if narrow .char (.int v) = .int v then some (v, M1) else none) := rfl
  rw [e1]
  refine K_cvi (q := 4) [] dJ0_charAt_5068e_1 cb_J0_il cv_J0_il (rc_s i hi) (show (4 : Nat) ≠ 0 by decide) rfl (Nat.le_of_ble_eq_true rfl) ⟨by decide, by decide⟩ (Nat.le_of_ble_eq_true rfl) rfl (tJ0_il i hi M) rfl (fun v M1 => ?_)
  refine K_if_eq (q := 7) (tgt := 16) dJ0_charAt_5068e_4 rfl J_none rfl ?_
  refine K_aload_n (q := 8) 0 dJ0_charAt_5068e_7 rfl rfl rfl ?_
  refine J_gval (q := 11) hi dJ0_charAt_5068e_8 w_va rfl ?_
  refine K_iload_n (q := 12) 1 dJ0_charAt_5068e_11 rfl rfl rfl ?_
  refine K_csi (q := 15) [.inr (5, j_len.getD i 0, 341 + i), .inl k] dJ0_charAt_5068e_12 cb_J1_ca cs_J1_ca rfl (Nat.le_of_ble_eq_true rfl) ⟨by decide, by decide⟩ (Nat.le_of_ble_eq_true rfl) rfl (tJ1_ca i hi k M1) rfl (fun v2 M2 => ?_)
  intro r hr
  by_cases hn : narrow .char (.int v2) = .int v2
  · rw [if_pos hn] at hr
    exact J_nret dJ0_charAt_5068e_15 hn r hr
  · rw [if_neg hn] at hr; cases hr
def xslen (u : Nat) (M : j_M) : Option (Int32 × j_M) := some (slen u, M)
def xsch (u : Nat) (k : Int32) (M : j_M) : Option (Int32 × j_M) := gd k (slenN u) (some (sch u k, M))
theorem xsch_at {i : Nat} {k : Int32} {M : j_M} {r : Int32 × j_M} (h : xsch (321 + i) k M = some r) : (obi (xJ1_ca i k M) fun v M1 => if narrow .char (.int v) = .int v then some (v, M1) else none) = some r := by
  obtain ⟨hin, h⟩ := gd_some h
  have e9 : slenN (321 + i) = j_len.getD i 0 := by unfold slenN; rw [Nat.add_sub_cancel_left]
  rw [e9] at hin
  obtain ⟨j, hj, rfl⟩ := vp_in_of hin (j_len_lt i)
  have hl := j_len_lt i
  have e1 : xJ0_ci (nI j) (nI (j_len.getD i 0)) M = some M := by
    unfold xJ0_ci xJ3_ci
    rw [if_neg (nI_pos (by omega)), if_pos (nI_lt hj hl)]
    rfl
  have e2 : xJ1_ca i (nI j) M = some (sch (321 + i) (nI j), M) := by
    unfold xJ1_ca
    rw [e1]
    show gd (nI j) (j_len.getD i 0) _ = _
    unfold gd
    rw [if_neg (nI_in hj hl), sc_c2]
    unfold sch
    rw [Nat.add_sub_cancel_left]
  rw [e2]
  show (if narrow .char (.int (sch (321 + i) (nI j))) = .int (sch (321 + i) (nI j)) then some (sch (321 + i) (nI j), M) else none) = some r
  have hn : narrow .char (.int (sch (321 + i) (nI j))) = .int (sch (321 + i) (nI j)) := sc_nar _
  rw [if_pos hn]
  exact h
section JR
variable {ρ : Type} {y : MethodName} {cc : ByteArray} {nL : Nat} {ret : Option FieldType} {fr lo : Nat} {em : ρ → Option j_V × j_M} {pc q : Nat} {ll : List (Nat × j_V)} {st : List j_V} {M : j_M} {X : Int32 → j_M → Option ρ}
/-- String.length() -/
theorem K_slen {u ix9 : Nat} (d : decode cc pc = .ok (.invokevirtual ix9, 3)) (hV : j_CV y.cls ix9 yJ0_length_8abf5) (f1 : st.length ≤ 8) (f2 : 2 ≤ fr) (f3 : 60 ≤ lo) (hq : pc + 3 = q) (h : ∀ v M1, J y cc nL ret fr lo em q ll (.inl v :: st) M1 (X v M1)) : J y cc nL ret fr lo em pc ll (.inr (4, 0, u) :: st) M (obi (xslen u M) X) := by
  have core : ∀ i, i < 12 → J y cc nL ret fr lo em pc ll (.inr (4, 0, 321 + i) :: st) M (obi (some (nI (j_len.getD i 0), M)) X) := fun i hi =>
    K_cvi (q := q) [] d cb_J0_le hV (rc_s i hi) (show (4 : Nat) ≠ 0 by decide) rfl f1 ⟨by omega, by omega⟩ (Nat.le_of_ble_eq_true rfl) rfl (tJ0_le i hi M) hq h
  intro r hr
  have hr' : X (slen u) M = some r := hr
  refine ⟨(h (slen u) M r hr').1, ?_⟩
  intro p l e s m args below meth c D aI aB H0 io Lv K0 mc ms H locs cells slots la cx hS hH hl hll hst hlo h1 h2
  obtain ⟨-, i, hi, rfl⟩ := hS.2.2.2.2.2.2.2.2.2.2.2.1 0 u (j_live_h hst (show (4 : Nat) ≠ 0 by decide))
  have e9 : slen (321 + i) = nI (j_len.getD i 0) := by unfold slen slenN; rw [Nat.add_sub_cancel_left]
  exact (core i hi r (by rw [← e9]; exact hr')).2 p l e s m args below meth c D aI aB H0 io Lv K0 mc ms H locs cells slots la cx hS hH hl hll hst hlo h1 h2
/-- String.charAt(k) -/
theorem K_scha {u ix9 : Nat} {k : Int32} (d : decode cc pc = .ok (.invokevirtual ix9, 3)) (hV : j_CV y.cls ix9 yJ0_charAt_5068e) (f1 : st.length ≤ 8) (f2 : 4 ≤ fr) (f3 : 120 ≤ lo) (hq : pc + 3 = q) (h : ∀ v M1, J y cc nL ret fr lo em q ll (.inl v :: st) M1 (X v M1)) : J y cc nL ret fr lo em pc ll (.inl k :: .inr (4, 0, u) :: st) M (obi (xsch u k M) X) := by
  have core : ∀ i, i < 12 → J y cc nL ret fr lo em pc ll (.inl k :: .inr (4, 0, 321 + i) :: st) M (obi (obi (xJ1_ca i k M) fun v M1 => if narrow .char (.int v) = .int v then some (v, M1) else none) X) := fun i hi =>
    K_cvi (q := q) [.inl k] d cb_J0_ca hV (rc_s i hi) (show (4 : Nat) ≠ 0 by decide) rfl f1 ⟨by omega, by omega⟩ (Nat.le_of_ble_eq_true rfl) rfl (tJ0_ca i hi k M) hq h
  intro r hr
  obtain ⟨w, hw1, hw2⟩ := Option.bind_eq_some_iff.mp hr
  have hwM : w.2 = M := by
    obtain ⟨-, h9⟩ := gd_some hw1
    cases h9; rfl
  refine ⟨?_, ?_⟩
  · have := (h w.1 w.2 r hw2).1
    rw [hwM] at this; exact this
  intro p l e s m args below meth c D aI aB H0 io Lv K0 mc ms H locs cells slots la cx hS hH hl hll hst hlo h1 h2
  obtain ⟨-, i, hi, rfl⟩ := hS.2.2.2.2.2.2.2.2.2.2.2.1 0 u (j_live_h (j_live_t hst) (show (4 : Nat) ≠ 0 by decide))
  refine (core i hi r ?_).2 p l e s m args below meth c D aI aB H0 io Lv K0 mc ms H locs cells slots la cx hS hH hl hll hst hlo h1 h2
  rw [xsch_at hw1]
  exact hw2
end JR
