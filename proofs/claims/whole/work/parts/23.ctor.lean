theorem w_oi : Cond.instanceMethod Lib.objectInit ∈ j_ws := j_in 133 (by decide +kernel) (by decide +kernel)
theorem w_oc : Cond.code Lib.objectInit ⟨#[0xb1]⟩ 1 none ∈ j_ws := j_in 134 (by decide +kernel) (by decide +kernel)
theorem w_ai : Cond.arrayClass .int ∈ j_ws := j_in 214 (by decide +kernel) (by decide +kernel)
theorem w_ab : Cond.arrayClass .byte ∈ j_ws := j_in 1274 (by decide +kernel) (by decide +kernel)
theorem ff_1_0 : j_FF RX5 1 0 (.array .int) := ⟨RX5, TX5, 15, tyX5, rfl, tyX5_ok, nmX5, rfl, rfl, by decide +kernel⟩
theorem ff_1_1 : j_FF RX5 1 1 (.array .int) := ⟨RX5, TX5, 15, tyX5, rfl, tyX5_ok, nmX5, rfl, rfl, by decide +kernel⟩
theorem ff_1_2 : j_FF RX5 1 2 (.array .int) := ⟨RX5, TX5, 15, tyX5, rfl, tyX5_ok, nmX5, rfl, rfl, by decide +kernel⟩
theorem ff_1_3 : j_FF RX5 1 3 (.array .int) := ⟨RX5, TX5, 15, tyX5, rfl, tyX5_ok, nmX5, rfl, rfl, by decide +kernel⟩
theorem ff_1_4 : j_FF RX5 1 4 (.array .int) := ⟨RX5, TX5, 15, tyX5, rfl, tyX5_ok, nmX5, rfl, rfl, by decide +kernel⟩
theorem ff_1_5 : j_FF RX5 1 5 (.array .int) := ⟨RX5, TX5, 15, tyX5, rfl, tyX5_ok, nmX5, rfl, rfl, by decide +kernel⟩
theorem ff_1_6 : j_FF RX5 1 6 (.array .int) := ⟨RX5, TX5, 15, tyX5, rfl, tyX5_ok, nmX5, rfl, rfl, by decide +kernel⟩
theorem ff_1_7 : j_FF RX5 1 7 (.array .int) := ⟨RX5, TX5, 15, tyX5, rfl, tyX5_ok, nmX5, rfl, rfl, by decide +kernel⟩
theorem ff_1_8 : j_FF RX5 1 8 (.array .int) := ⟨RX5, TX5, 15, tyX5, rfl, tyX5_ok, nmX5, rfl, rfl, by decide +kernel⟩
theorem ff_1_9 : j_FF RX5 1 9 (.array .int) := ⟨RX5, TX5, 15, tyX5, rfl, tyX5_ok, nmX5, rfl, rfl, by decide +kernel⟩
theorem ff_1_10 : j_FF RX5 1 10 (.array .int) := ⟨RX5, TX5, 15, tyX5, rfl, tyX5_ok, nmX5, rfl, rfl, by decide +kernel⟩
theorem dX5_init_0 : decode cX5_init 0 = .ok (.aload_n 0, 1) := by decide +kernel
theorem dX5_init_1 : decode cX5_init 1 = .ok (.invokespecial 3, 3) := by decide +kernel
theorem dX5_init_4 : decode cX5_init 4 = .ok (.aload_n 0, 1) := by decide +kernel
theorem dX5_init_5 : decode cX5_init 5 = .ok (.bipush 100, 2) := by decide +kernel
theorem dX5_init_7 : decode cX5_init 7 = .ok (.newarray .int, 2) := by decide +kernel
theorem dX5_init_9 : decode cX5_init 9 = .ok (.putfield 9, 3) := by decide +kernel
theorem dX5_init_12 : decode cX5_init 12 = .ok (.aload_n 0, 1) := by decide +kernel
theorem dX5_init_13 : decode cX5_init 13 = .ok (.bipush 49, 2) := by decide +kernel
theorem dX5_init_15 : decode cX5_init 15 = .ok (.newarray .int, 2) := by decide +kernel
theorem dX5_init_17 : decode cX5_init 17 = .ok (.putfield 15, 3) := by decide +kernel
theorem dX5_init_20 : decode cX5_init 20 = .ok (.aload_n 0, 1) := by decide +kernel
theorem dX5_init_21 : decode cX5_init 21 = .ok (.bipush 49, 2) := by decide +kernel
theorem dX5_init_23 : decode cX5_init 23 = .ok (.newarray .int, 2) := by decide +kernel
theorem dX5_init_25 : decode cX5_init 25 = .ok (.putfield 18, 3) := by decide +kernel
theorem dX5_init_28 : decode cX5_init 28 = .ok (.aload_n 0, 1) := by decide +kernel
theorem dX5_init_29 : decode cX5_init 29 = .ok (.bipush 49, 2) := by decide +kernel
theorem dX5_init_31 : decode cX5_init 31 = .ok (.newarray .int, 2) := by decide +kernel
theorem dX5_init_33 : decode cX5_init 33 = .ok (.putfield 21, 3) := by decide +kernel
theorem dX5_init_36 : decode cX5_init 36 = .ok (.aload_n 0, 1) := by decide +kernel
theorem dX5_init_37 : decode cX5_init 37 = .ok (.sipush 360, 3) := by decide +kernel
theorem dX5_init_40 : decode cX5_init 40 = .ok (.newarray .int, 2) := by decide +kernel
theorem dX5_init_42 : decode cX5_init 42 = .ok (.putfield 24, 3) := by decide +kernel
theorem dX5_init_45 : decode cX5_init 45 = .ok (.aload_n 0, 1) := by decide +kernel
theorem dX5_init_46 : decode cX5_init 46 = .ok (.bipush 6, 2) := by decide +kernel
theorem dX5_init_48 : decode cX5_init 48 = .ok (.newarray .int, 2) := by decide +kernel
theorem dX5_init_50 : decode cX5_init 50 = .ok (.putfield 27, 3) := by decide +kernel
theorem dX5_init_53 : decode cX5_init 53 = .ok (.aload_n 0, 1) := by decide +kernel
theorem dX5_init_54 : decode cX5_init 54 = .ok (.bipush 6, 2) := by decide +kernel
theorem dX5_init_56 : decode cX5_init 56 = .ok (.newarray .int, 2) := by decide +kernel
theorem dX5_init_58 : decode cX5_init 58 = .ok (.putfield 30, 3) := by decide +kernel
theorem dX5_init_61 : decode cX5_init 61 = .ok (.aload_n 0, 1) := by decide +kernel
theorem dX5_init_62 : decode cX5_init 62 = .ok (.bipush 6, 2) := by decide +kernel
theorem dX5_init_64 : decode cX5_init 64 = .ok (.newarray .int, 2) := by decide +kernel
theorem dX5_init_66 : decode cX5_init 66 = .ok (.putfield 33, 3) := by decide +kernel
theorem dX5_init_69 : decode cX5_init 69 = .ok (.aload_n 0, 1) := by decide +kernel
theorem dX5_init_70 : decode cX5_init 70 = .ok (.bipush 6, 2) := by decide +kernel
theorem dX5_init_72 : decode cX5_init 72 = .ok (.newarray .int, 2) := by decide +kernel
theorem dX5_init_74 : decode cX5_init 74 = .ok (.putfield 36, 3) := by decide +kernel
theorem dX5_init_77 : decode cX5_init 77 = .ok (.aload_n 0, 1) := by decide +kernel
theorem dX5_init_78 : decode cX5_init 78 = .ok (.bipush 6, 2) := by decide +kernel
theorem dX5_init_80 : decode cX5_init 80 = .ok (.newarray .int, 2) := by decide +kernel
theorem dX5_init_82 : decode cX5_init 82 = .ok (.putfield 39, 3) := by decide +kernel
theorem dX5_init_85 : decode cX5_init 85 = .ok (.aload_n 0, 1) := by decide +kernel
theorem dX5_init_86 : decode cX5_init 86 = .ok (.bipush 6, 2) := by decide +kernel
theorem dX5_init_88 : decode cX5_init 88 = .ok (.newarray .int, 2) := by decide +kernel
theorem dX5_init_90 : decode cX5_init 90 = .ok (.putfield 42, 3) := by decide +kernel
theorem dX5_init_93 : decode cX5_init 93 = .ok (.return_, 1) := by decide +kernel
set_option maxRecDepth 100000 in
set_option maxHeartbeats 4000000 in
theorem c_X5_init (l : Launch) (D : va_G) (aI aB : ClassId) (z h0 : Nat) : Met l yX5_init (Cond.code yX5_init cX5_init 1 none :: j_ws) { frames := 1, cells := 11, slots := 643, locals := 20 } (n_Pc D aI aB z h0 1 15 (vp_V [.null, .null, .null, .null, .null, .null, .null, .null, .null, .null, .null, .int 0, .int 0, .int 0, .int 0]) [.ref h0]) (n_Q 11 (fun sz => [(h0, n_at D 1 15 (vp_V [.ref (sz + 0), .ref (sz + 1), .ref (sz + 2), .ref (sz + 3), .ref (sz + 4), .ref (sz + 5), .ref (sz + 6), .ref (sz + 7), .ref (sz + 8), .ref (sz + 9), .ref (sz + 10), .int 0, .int 0, .int 0, .int 0])), (sz + 0, n_ar aI 100 (fun _ => 0)), (sz + 1, n_ar aI 49 (fun _ => 0)), (sz + 2, n_ar aI 49 (fun _ => 0)), (sz + 3, n_ar aI 49 (fun _ => 0)), (sz + 4, n_ar aI 360 (fun _ => 0)), (sz + 5, n_ar aI 6 (fun _ => 0)), (sz + 6, n_ar aI 6 (fun _ => 0)), (sz + 7, n_ar aI 6 (fun _ => 0)), (sz + 8, n_ar aI 6 (fun _ => 0)), (sz + 9, n_ar aI 6 (fun _ => 0)), (sz + 10, n_ar aI 6 (fun _ => 0))])) 11 643 (fun q => z ≤ q) := by
  refine Met.ofW (cc := cX5_init) (maxL := 1) (ret := none) (by decide +kernel) rfl ?_
  intro p e s m args below meth c s₁ B hml hv
  obtain ⟨rfl, hK, hraw, hz, hN⟩ := hv
  have hts := atoms_spec (ws := Cond.code yX5_init cX5_init 1 none :: j_ws) B.pre
  have cx : j_Cx yX5_init cX5_init 1 none p s m _ meth c := ⟨B.exec, B.bytes, B.returns, hml, fun w hw => hts w (List.mem_cons_of_mem _ hw), findClass_of_methodNamed B.named, B.notSynchronized⟩
  have hin : meth.name = "<init>" := (name_of_methodNamed B.named B.method).1
  have hl := lv_entry ([.ref h0]) (n := 1) (Nat.le_of_ble_eq_true rfl)
  rw [lg_entry_eq]
  generalize (lg_sl ([.ref h0]) ++ List.replicate (1 - (lg_sl ([.ref h0])).length) Slot.unset).toArray = la at hl ⊢
  have hl : lv_has la 1 [(0, .ref h0)] := hl
  have hB := hb.one hraw
  have hlo : ∀ q ∈ ([] : List Loc), z ≤ q.base := fun q hq => by cases hq
  have hz9 : ∀ {k : Nat}, z ≤ s.heap.size + k := fun {k} => by
    obtain ⟨c9, hc9, -⟩ := hraw
    have := (Array.getElem?_eq_some_iff.mp hc9).1
    omega
  refine lv_aload_n cx.1 cx.2.1 dX5_init_0 rfl (lv_at hl 0 rfl) ?_
  refine W.objInit cx.1 cx.2.1 cx.2.2.2.2.2.1 (cx.2.2.2.2.1 _ (j_in 146 (by decide +kernel) (by decide +kernel))) (cx.2.2.2.2.1 _ w_oi) (cx.2.2.2.2.1 _ w_oc) rfl (by rw [hml]; exact hl.1) rfl dX5_init_1 (Nat.le_of_ble_eq_true rfl) (Nat.le_of_ble_eq_true rfl) ?_
  refine W.eq (g2 := F0 m 4 la []) rfl ?_
  refine lv_aload_n cx.1 cx.2.1 dX5_init_4 rfl (lv_at hl 0 rfl) ?_
  refine lv_bipush cx.1 cx.2.1 dX5_init_5 (v := 100) rfl ?_
  refine N_newa cx hK w_ai (v := 100) (k := 100) (q := 9) (by decide) (by decide) (by decide) dX5_init_7 (Nat.le_of_ble_eq_true rfl) (Nat.le_of_ble_eq_true rfl) hB rfl (fun H hB => ?_)
  have hB : hb s.heap H 1 [(h0, n_at D 1 15 (vp_V [.null, .null, .null, .null, .null, .null, .null, .null, .null, .null, .null, .int 0, .int 0, .int 0, .int 0])), (s.heap.size + 0, n_ar aI 100 (fun _ => 0))] := hB
  refine W.eq (g2 := F0 m 9 la [.ref (s.heap.size + 0), .ref h0]) rfl ?_
  refine W.widen (k := 1) (n := 100) (Nat.le_of_ble_eq_true rfl) (Nat.le_of_ble_eq_true rfl) ?_
  refine N_put cx hK (ci := 1) (N := 15) (V' := (vp_V [.ref (s.heap.size + 0), .null, .null, .null, .null, .null, .null, .null, .null, .null, .null, .int 0, .int 0, .int 0, .int 0])) (q := 12) 0 0 dX5_init_9 fRX5_9 (Or.inr ⟨ff_1_0, hin⟩) rfl rfl rfl hB rfl hz hlo (n_setV (Nat.le_of_ble_eq_true rfl) _) rfl (fun H locs hB hlo => ?_)
  have hB : hb s.heap H 1 [(h0, n_at D 1 15 (vp_V [.ref (s.heap.size + 0), .null, .null, .null, .null, .null, .null, .null, .null, .null, .null, .int 0, .int 0, .int 0, .int 0])), (s.heap.size + 0, n_ar aI 100 (fun _ => 0))] := hB
  refine lv_aload_n cx.1 cx.2.1 dX5_init_12 rfl (lv_at hl 0 rfl) ?_
  refine lv_bipush cx.1 cx.2.1 dX5_init_13 (v := 49) rfl ?_
  refine N_newa cx hK w_ai (v := 49) (k := 49) (q := 17) (by decide) (by decide) (by decide) dX5_init_15 (Nat.le_of_ble_eq_true rfl) (Nat.le_of_ble_eq_true rfl) hB rfl (fun H hB => ?_)
  have hB : hb s.heap H 2 [(h0, n_at D 1 15 (vp_V [.ref (s.heap.size + 0), .null, .null, .null, .null, .null, .null, .null, .null, .null, .null, .int 0, .int 0, .int 0, .int 0])), (s.heap.size + 0, n_ar aI 100 (fun _ => 0)), (s.heap.size + 1, n_ar aI 49 (fun _ => 0))] := hB
  refine W.eq (g2 := F0 m 17 la [.ref (s.heap.size + 1), .ref h0]) rfl ?_
  refine W.widen (k := 2) (n := 149) (Nat.le_of_ble_eq_true rfl) (Nat.le_of_ble_eq_true rfl) ?_
  refine N_put cx hK (ci := 1) (N := 15) (V' := (vp_V [.ref (s.heap.size + 0), .ref (s.heap.size + 1), .null, .null, .null, .null, .null, .null, .null, .null, .null, .int 0, .int 0, .int 0, .int 0])) (q := 20) 1 0 dX5_init_17 fRX5_15 (Or.inr ⟨ff_1_1, hin⟩) rfl rfl rfl hB rfl hz hlo (n_setV (Nat.le_of_ble_eq_true rfl) _) rfl (fun H locs hB hlo => ?_)
  have hB : hb s.heap H 2 [(h0, n_at D 1 15 (vp_V [.ref (s.heap.size + 0), .ref (s.heap.size + 1), .null, .null, .null, .null, .null, .null, .null, .null, .null, .int 0, .int 0, .int 0, .int 0])), (s.heap.size + 0, n_ar aI 100 (fun _ => 0)), (s.heap.size + 1, n_ar aI 49 (fun _ => 0))] := hB
  refine lv_aload_n cx.1 cx.2.1 dX5_init_20 rfl (lv_at hl 0 rfl) ?_
  refine lv_bipush cx.1 cx.2.1 dX5_init_21 (v := 49) rfl ?_
  refine N_newa cx hK w_ai (v := 49) (k := 49) (q := 25) (by decide) (by decide) (by decide) dX5_init_23 (Nat.le_of_ble_eq_true rfl) (Nat.le_of_ble_eq_true rfl) hB rfl (fun H hB => ?_)
  have hB : hb s.heap H 3 [(h0, n_at D 1 15 (vp_V [.ref (s.heap.size + 0), .ref (s.heap.size + 1), .null, .null, .null, .null, .null, .null, .null, .null, .null, .int 0, .int 0, .int 0, .int 0])), (s.heap.size + 0, n_ar aI 100 (fun _ => 0)), (s.heap.size + 1, n_ar aI 49 (fun _ => 0)), (s.heap.size + 2, n_ar aI 49 (fun _ => 0))] := hB
  refine W.eq (g2 := F0 m 25 la [.ref (s.heap.size + 2), .ref h0]) rfl ?_
  refine W.widen (k := 3) (n := 198) (Nat.le_of_ble_eq_true rfl) (Nat.le_of_ble_eq_true rfl) ?_
  refine N_put cx hK (ci := 1) (N := 15) (V' := (vp_V [.ref (s.heap.size + 0), .ref (s.heap.size + 1), .ref (s.heap.size + 2), .null, .null, .null, .null, .null, .null, .null, .null, .int 0, .int 0, .int 0, .int 0])) (q := 28) 2 0 dX5_init_25 fRX5_18 (Or.inr ⟨ff_1_2, hin⟩) rfl rfl rfl hB rfl hz hlo (n_setV (Nat.le_of_ble_eq_true rfl) _) rfl (fun H locs hB hlo => ?_)
  have hB : hb s.heap H 3 [(h0, n_at D 1 15 (vp_V [.ref (s.heap.size + 0), .ref (s.heap.size + 1), .ref (s.heap.size + 2), .null, .null, .null, .null, .null, .null, .null, .null, .int 0, .int 0, .int 0, .int 0])), (s.heap.size + 0, n_ar aI 100 (fun _ => 0)), (s.heap.size + 1, n_ar aI 49 (fun _ => 0)), (s.heap.size + 2, n_ar aI 49 (fun _ => 0))] := hB
  refine lv_aload_n cx.1 cx.2.1 dX5_init_28 rfl (lv_at hl 0 rfl) ?_
  refine lv_bipush cx.1 cx.2.1 dX5_init_29 (v := 49) rfl ?_
  refine N_newa cx hK w_ai (v := 49) (k := 49) (q := 33) (by decide) (by decide) (by decide) dX5_init_31 (Nat.le_of_ble_eq_true rfl) (Nat.le_of_ble_eq_true rfl) hB rfl (fun H hB => ?_)
  have hB : hb s.heap H 4 [(h0, n_at D 1 15 (vp_V [.ref (s.heap.size + 0), .ref (s.heap.size + 1), .ref (s.heap.size + 2), .null, .null, .null, .null, .null, .null, .null, .null, .int 0, .int 0, .int 0, .int 0])), (s.heap.size + 0, n_ar aI 100 (fun _ => 0)), (s.heap.size + 1, n_ar aI 49 (fun _ => 0)), (s.heap.size + 2, n_ar aI 49 (fun _ => 0)), (s.heap.size + 3, n_ar aI 49 (fun _ => 0))] := hB
  refine W.eq (g2 := F0 m 33 la [.ref (s.heap.size + 3), .ref h0]) rfl ?_
  refine W.widen (k := 4) (n := 247) (Nat.le_of_ble_eq_true rfl) (Nat.le_of_ble_eq_true rfl) ?_
  refine N_put cx hK (ci := 1) (N := 15) (V' := (vp_V [.ref (s.heap.size + 0), .ref (s.heap.size + 1), .ref (s.heap.size + 2), .ref (s.heap.size + 3), .null, .null, .null, .null, .null, .null, .null, .int 0, .int 0, .int 0, .int 0])) (q := 36) 3 0 dX5_init_33 fRX5_21 (Or.inr ⟨ff_1_3, hin⟩) rfl rfl rfl hB rfl hz hlo (n_setV (Nat.le_of_ble_eq_true rfl) _) rfl (fun H locs hB hlo => ?_)
  have hB : hb s.heap H 4 [(h0, n_at D 1 15 (vp_V [.ref (s.heap.size + 0), .ref (s.heap.size + 1), .ref (s.heap.size + 2), .ref (s.heap.size + 3), .null, .null, .null, .null, .null, .null, .null, .int 0, .int 0, .int 0, .int 0])), (s.heap.size + 0, n_ar aI 100 (fun _ => 0)), (s.heap.size + 1, n_ar aI 49 (fun _ => 0)), (s.heap.size + 2, n_ar aI 49 (fun _ => 0)), (s.heap.size + 3, n_ar aI 49 (fun _ => 0))] := hB
  refine lv_aload_n cx.1 cx.2.1 dX5_init_36 rfl (lv_at hl 0 rfl) ?_
  refine lv_sipush cx.1 cx.2.1 dX5_init_37 (v := 360) rfl ?_
  refine N_newa cx hK w_ai (v := 360) (k := 360) (q := 42) (by decide) (by decide) (by decide) dX5_init_40 (Nat.le_of_ble_eq_true rfl) (Nat.le_of_ble_eq_true rfl) hB rfl (fun H hB => ?_)
  have hB : hb s.heap H 5 [(h0, n_at D 1 15 (vp_V [.ref (s.heap.size + 0), .ref (s.heap.size + 1), .ref (s.heap.size + 2), .ref (s.heap.size + 3), .null, .null, .null, .null, .null, .null, .null, .int 0, .int 0, .int 0, .int 0])), (s.heap.size + 0, n_ar aI 100 (fun _ => 0)), (s.heap.size + 1, n_ar aI 49 (fun _ => 0)), (s.heap.size + 2, n_ar aI 49 (fun _ => 0)), (s.heap.size + 3, n_ar aI 49 (fun _ => 0)), (s.heap.size + 4, n_ar aI 360 (fun _ => 0))] := hB
  refine W.eq (g2 := F0 m 42 la [.ref (s.heap.size + 4), .ref h0]) rfl ?_
  refine W.widen (k := 5) (n := 607) (Nat.le_of_ble_eq_true rfl) (Nat.le_of_ble_eq_true rfl) ?_
  refine N_put cx hK (ci := 1) (N := 15) (V' := (vp_V [.ref (s.heap.size + 0), .ref (s.heap.size + 1), .ref (s.heap.size + 2), .ref (s.heap.size + 3), .ref (s.heap.size + 4), .null, .null, .null, .null, .null, .null, .int 0, .int 0, .int 0, .int 0])) (q := 45) 4 0 dX5_init_42 fRX5_24 (Or.inr ⟨ff_1_4, hin⟩) rfl rfl rfl hB rfl hz hlo (n_setV (Nat.le_of_ble_eq_true rfl) _) rfl (fun H locs hB hlo => ?_)
  have hB : hb s.heap H 5 [(h0, n_at D 1 15 (vp_V [.ref (s.heap.size + 0), .ref (s.heap.size + 1), .ref (s.heap.size + 2), .ref (s.heap.size + 3), .ref (s.heap.size + 4), .null, .null, .null, .null, .null, .null, .int 0, .int 0, .int 0, .int 0])), (s.heap.size + 0, n_ar aI 100 (fun _ => 0)), (s.heap.size + 1, n_ar aI 49 (fun _ => 0)), (s.heap.size + 2, n_ar aI 49 (fun _ => 0)), (s.heap.size + 3, n_ar aI 49 (fun _ => 0)), (s.heap.size + 4, n_ar aI 360 (fun _ => 0))] := hB
  refine lv_aload_n cx.1 cx.2.1 dX5_init_45 rfl (lv_at hl 0 rfl) ?_
  refine lv_bipush cx.1 cx.2.1 dX5_init_46 (v := 6) rfl ?_
  refine N_newa cx hK w_ai (v := 6) (k := 6) (q := 50) (by decide) (by decide) (by decide) dX5_init_48 (Nat.le_of_ble_eq_true rfl) (Nat.le_of_ble_eq_true rfl) hB rfl (fun H hB => ?_)
  have hB : hb s.heap H 6 [(h0, n_at D 1 15 (vp_V [.ref (s.heap.size + 0), .ref (s.heap.size + 1), .ref (s.heap.size + 2), .ref (s.heap.size + 3), .ref (s.heap.size + 4), .null, .null, .null, .null, .null, .null, .int 0, .int 0, .int 0, .int 0])), (s.heap.size + 0, n_ar aI 100 (fun _ => 0)), (s.heap.size + 1, n_ar aI 49 (fun _ => 0)), (s.heap.size + 2, n_ar aI 49 (fun _ => 0)), (s.heap.size + 3, n_ar aI 49 (fun _ => 0)), (s.heap.size + 4, n_ar aI 360 (fun _ => 0)), (s.heap.size + 5, n_ar aI 6 (fun _ => 0))] := hB
  refine W.eq (g2 := F0 m 50 la [.ref (s.heap.size + 5), .ref h0]) rfl ?_
  refine W.widen (k := 6) (n := 613) (Nat.le_of_ble_eq_true rfl) (Nat.le_of_ble_eq_true rfl) ?_
  refine N_put cx hK (ci := 1) (N := 15) (V' := (vp_V [.ref (s.heap.size + 0), .ref (s.heap.size + 1), .ref (s.heap.size + 2), .ref (s.heap.size + 3), .ref (s.heap.size + 4), .ref (s.heap.size + 5), .null, .null, .null, .null, .null, .int 0, .int 0, .int 0, .int 0])) (q := 53) 5 0 dX5_init_50 fRX5_27 (Or.inr ⟨ff_1_5, hin⟩) rfl rfl rfl hB rfl hz hlo (n_setV (Nat.le_of_ble_eq_true rfl) _) rfl (fun H locs hB hlo => ?_)
  have hB : hb s.heap H 6 [(h0, n_at D 1 15 (vp_V [.ref (s.heap.size + 0), .ref (s.heap.size + 1), .ref (s.heap.size + 2), .ref (s.heap.size + 3), .ref (s.heap.size + 4), .ref (s.heap.size + 5), .null, .null, .null, .null, .null, .int 0, .int 0, .int 0, .int 0])), (s.heap.size + 0, n_ar aI 100 (fun _ => 0)), (s.heap.size + 1, n_ar aI 49 (fun _ => 0)), (s.heap.size + 2, n_ar aI 49 (fun _ => 0)), (s.heap.size + 3, n_ar aI 49 (fun _ => 0)), (s.heap.size + 4, n_ar aI 360 (fun _ => 0)), (s.heap.size + 5, n_ar aI 6 (fun _ => 0))] := hB
  refine lv_aload_n cx.1 cx.2.1 dX5_init_53 rfl (lv_at hl 0 rfl) ?_
  refine lv_bipush cx.1 cx.2.1 dX5_init_54 (v := 6) rfl ?_
  refine N_newa cx hK w_ai (v := 6) (k := 6) (q := 58) (by decide) (by decide) (by decide) dX5_init_56 (Nat.le_of_ble_eq_true rfl) (Nat.le_of_ble_eq_true rfl) hB rfl (fun H hB => ?_)
  have hB : hb s.heap H 7 [(h0, n_at D 1 15 (vp_V [.ref (s.heap.size + 0), .ref (s.heap.size + 1), .ref (s.heap.size + 2), .ref (s.heap.size + 3), .ref (s.heap.size + 4), .ref (s.heap.size + 5), .null, .null, .null, .null, .null, .int 0, .int 0, .int 0, .int 0])), (s.heap.size + 0, n_ar aI 100 (fun _ => 0)), (s.heap.size + 1, n_ar aI 49 (fun _ => 0)), (s.heap.size + 2, n_ar aI 49 (fun _ => 0)), (s.heap.size + 3, n_ar aI 49 (fun _ => 0)), (s.heap.size + 4, n_ar aI 360 (fun _ => 0)), (s.heap.size + 5, n_ar aI 6 (fun _ => 0)), (s.heap.size + 6, n_ar aI 6 (fun _ => 0))] := hB
  refine W.eq (g2 := F0 m 58 la [.ref (s.heap.size + 6), .ref h0]) rfl ?_
  refine W.widen (k := 7) (n := 619) (Nat.le_of_ble_eq_true rfl) (Nat.le_of_ble_eq_true rfl) ?_
  refine N_put cx hK (ci := 1) (N := 15) (V' := (vp_V [.ref (s.heap.size + 0), .ref (s.heap.size + 1), .ref (s.heap.size + 2), .ref (s.heap.size + 3), .ref (s.heap.size + 4), .ref (s.heap.size + 5), .ref (s.heap.size + 6), .null, .null, .null, .null, .int 0, .int 0, .int 0, .int 0])) (q := 61) 6 0 dX5_init_58 fRX5_30 (Or.inr ⟨ff_1_6, hin⟩) rfl rfl rfl hB rfl hz hlo (n_setV (Nat.le_of_ble_eq_true rfl) _) rfl (fun H locs hB hlo => ?_)
  have hB : hb s.heap H 7 [(h0, n_at D 1 15 (vp_V [.ref (s.heap.size + 0), .ref (s.heap.size + 1), .ref (s.heap.size + 2), .ref (s.heap.size + 3), .ref (s.heap.size + 4), .ref (s.heap.size + 5), .ref (s.heap.size + 6), .null, .null, .null, .null, .int 0, .int 0, .int 0, .int 0])), (s.heap.size + 0, n_ar aI 100 (fun _ => 0)), (s.heap.size + 1, n_ar aI 49 (fun _ => 0)), (s.heap.size + 2, n_ar aI 49 (fun _ => 0)), (s.heap.size + 3, n_ar aI 49 (fun _ => 0)), (s.heap.size + 4, n_ar aI 360 (fun _ => 0)), (s.heap.size + 5, n_ar aI 6 (fun _ => 0)), (s.heap.size + 6, n_ar aI 6 (fun _ => 0))] := hB
  refine lv_aload_n cx.1 cx.2.1 dX5_init_61 rfl (lv_at hl 0 rfl) ?_
  refine lv_bipush cx.1 cx.2.1 dX5_init_62 (v := 6) rfl ?_
  refine N_newa cx hK w_ai (v := 6) (k := 6) (q := 66) (by decide) (by decide) (by decide) dX5_init_64 (Nat.le_of_ble_eq_true rfl) (Nat.le_of_ble_eq_true rfl) hB rfl (fun H hB => ?_)
  have hB : hb s.heap H 8 [(h0, n_at D 1 15 (vp_V [.ref (s.heap.size + 0), .ref (s.heap.size + 1), .ref (s.heap.size + 2), .ref (s.heap.size + 3), .ref (s.heap.size + 4), .ref (s.heap.size + 5), .ref (s.heap.size + 6), .null, .null, .null, .null, .int 0, .int 0, .int 0, .int 0])), (s.heap.size + 0, n_ar aI 100 (fun _ => 0)), (s.heap.size + 1, n_ar aI 49 (fun _ => 0)), (s.heap.size + 2, n_ar aI 49 (fun _ => 0)), (s.heap.size + 3, n_ar aI 49 (fun _ => 0)), (s.heap.size + 4, n_ar aI 360 (fun _ => 0)), (s.heap.size + 5, n_ar aI 6 (fun _ => 0)), (s.heap.size + 6, n_ar aI 6 (fun _ => 0)), (s.heap.size + 7, n_ar aI 6 (fun _ => 0))] := hB
  refine W.eq (g2 := F0 m 66 la [.ref (s.heap.size + 7), .ref h0]) rfl ?_
  refine W.widen (k := 8) (n := 625) (Nat.le_of_ble_eq_true rfl) (Nat.le_of_ble_eq_true rfl) ?_
  refine N_put cx hK (ci := 1) (N := 15) (V' := (vp_V [.ref (s.heap.size + 0), .ref (s.heap.size + 1), .ref (s.heap.size + 2), .ref (s.heap.size + 3), .ref (s.heap.size + 4), .ref (s.heap.size + 5), .ref (s.heap.size + 6), .ref (s.heap.size + 7), .null, .null, .null, .int 0, .int 0, .int 0, .int 0])) (q := 69) 7 0 dX5_init_66 fRX5_33 (Or.inr ⟨ff_1_7, hin⟩) rfl rfl rfl hB rfl hz hlo (n_setV (Nat.le_of_ble_eq_true rfl) _) rfl (fun H locs hB hlo => ?_)
  have hB : hb s.heap H 8 [(h0, n_at D 1 15 (vp_V [.ref (s.heap.size + 0), .ref (s.heap.size + 1), .ref (s.heap.size + 2), .ref (s.heap.size + 3), .ref (s.heap.size + 4), .ref (s.heap.size + 5), .ref (s.heap.size + 6), .ref (s.heap.size + 7), .null, .null, .null, .int 0, .int 0, .int 0, .int 0])), (s.heap.size + 0, n_ar aI 100 (fun _ => 0)), (s.heap.size + 1, n_ar aI 49 (fun _ => 0)), (s.heap.size + 2, n_ar aI 49 (fun _ => 0)), (s.heap.size + 3, n_ar aI 49 (fun _ => 0)), (s.heap.size + 4, n_ar aI 360 (fun _ => 0)), (s.heap.size + 5, n_ar aI 6 (fun _ => 0)), (s.heap.size + 6, n_ar aI 6 (fun _ => 0)), (s.heap.size + 7, n_ar aI 6 (fun _ => 0))] := hB
  refine lv_aload_n cx.1 cx.2.1 dX5_init_69 rfl (lv_at hl 0 rfl) ?_
  refine lv_bipush cx.1 cx.2.1 dX5_init_70 (v := 6) rfl ?_
  refine N_newa cx hK w_ai (v := 6) (k := 6) (q := 74) (by decide) (by decide) (by decide) dX5_init_72 (Nat.le_of_ble_eq_true rfl) (Nat.le_of_ble_eq_true rfl) hB rfl (fun H hB => ?_)
  have hB : hb s.heap H 9 [(h0, n_at D 1 15 (vp_V [.ref (s.heap.size + 0), .ref (s.heap.size + 1), .ref (s.heap.size + 2), .ref (s.heap.size + 3), .ref (s.heap.size + 4), .ref (s.heap.size + 5), .ref (s.heap.size + 6), .ref (s.heap.size + 7), .null, .null, .null, .int 0, .int 0, .int 0, .int 0])), (s.heap.size + 0, n_ar aI 100 (fun _ => 0)), (s.heap.size + 1, n_ar aI 49 (fun _ => 0)), (s.heap.size + 2, n_ar aI 49 (fun _ => 0)), (s.heap.size + 3, n_ar aI 49 (fun _ => 0)), (s.heap.size + 4, n_ar aI 360 (fun _ => 0)), (s.heap.size + 5, n_ar aI 6 (fun _ => 0)), (s.heap.size + 6, n_ar aI 6 (fun _ => 0)), (s.heap.size + 7, n_ar aI 6 (fun _ => 0)), (s.heap.size + 8, n_ar aI 6 (fun _ => 0))] := hB
  refine W.eq (g2 := F0 m 74 la [.ref (s.heap.size + 8), .ref h0]) rfl ?_
  refine W.widen (k := 9) (n := 631) (Nat.le_of_ble_eq_true rfl) (Nat.le_of_ble_eq_true rfl) ?_
  refine N_put cx hK (ci := 1) (N := 15) (V' := (vp_V [.ref (s.heap.size + 0), .ref (s.heap.size + 1), .ref (s.heap.size + 2), .ref (s.heap.size + 3), .ref (s.heap.size + 4), .ref (s.heap.size + 5), .ref (s.heap.size + 6), .ref (s.heap.size + 7), .ref (s.heap.size + 8), .null, .null, .int 0, .int 0, .int 0, .int 0])) (q := 77) 8 0 dX5_init_74 fRX5_36 (Or.inr ⟨ff_1_8, hin⟩) rfl rfl rfl hB rfl hz hlo (n_setV (Nat.le_of_ble_eq_true rfl) _) rfl (fun H locs hB hlo => ?_)
  have hB : hb s.heap H 9 [(h0, n_at D 1 15 (vp_V [.ref (s.heap.size + 0), .ref (s.heap.size + 1), .ref (s.heap.size + 2), .ref (s.heap.size + 3), .ref (s.heap.size + 4), .ref (s.heap.size + 5), .ref (s.heap.size + 6), .ref (s.heap.size + 7), .ref (s.heap.size + 8), .null, .null, .int 0, .int 0, .int 0, .int 0])), (s.heap.size + 0, n_ar aI 100 (fun _ => 0)), (s.heap.size + 1, n_ar aI 49 (fun _ => 0)), (s.heap.size + 2, n_ar aI 49 (fun _ => 0)), (s.heap.size + 3, n_ar aI 49 (fun _ => 0)), (s.heap.size + 4, n_ar aI 360 (fun _ => 0)), (s.heap.size + 5, n_ar aI 6 (fun _ => 0)), (s.heap.size + 6, n_ar aI 6 (fun _ => 0)), (s.heap.size + 7, n_ar aI 6 (fun _ => 0)), (s.heap.size + 8, n_ar aI 6 (fun _ => 0))] := hB
  refine lv_aload_n cx.1 cx.2.1 dX5_init_77 rfl (lv_at hl 0 rfl) ?_
  refine lv_bipush cx.1 cx.2.1 dX5_init_78 (v := 6) rfl ?_
  refine N_newa cx hK w_ai (v := 6) (k := 6) (q := 82) (by decide) (by decide) (by decide) dX5_init_80 (Nat.le_of_ble_eq_true rfl) (Nat.le_of_ble_eq_true rfl) hB rfl (fun H hB => ?_)
  have hB : hb s.heap H 10 [(h0, n_at D 1 15 (vp_V [.ref (s.heap.size + 0), .ref (s.heap.size + 1), .ref (s.heap.size + 2), .ref (s.heap.size + 3), .ref (s.heap.size + 4), .ref (s.heap.size + 5), .ref (s.heap.size + 6), .ref (s.heap.size + 7), .ref (s.heap.size + 8), .null, .null, .int 0, .int 0, .int 0, .int 0])), (s.heap.size + 0, n_ar aI 100 (fun _ => 0)), (s.heap.size + 1, n_ar aI 49 (fun _ => 0)), (s.heap.size + 2, n_ar aI 49 (fun _ => 0)), (s.heap.size + 3, n_ar aI 49 (fun _ => 0)), (s.heap.size + 4, n_ar aI 360 (fun _ => 0)), (s.heap.size + 5, n_ar aI 6 (fun _ => 0)), (s.heap.size + 6, n_ar aI 6 (fun _ => 0)), (s.heap.size + 7, n_ar aI 6 (fun _ => 0)), (s.heap.size + 8, n_ar aI 6 (fun _ => 0)), (s.heap.size + 9, n_ar aI 6 (fun _ => 0))] := hB
  refine W.eq (g2 := F0 m 82 la [.ref (s.heap.size + 9), .ref h0]) rfl ?_
  refine W.widen (k := 10) (n := 637) (Nat.le_of_ble_eq_true rfl) (Nat.le_of_ble_eq_true rfl) ?_
  refine N_put cx hK (ci := 1) (N := 15) (V' := (vp_V [.ref (s.heap.size + 0), .ref (s.heap.size + 1), .ref (s.heap.size + 2), .ref (s.heap.size + 3), .ref (s.heap.size + 4), .ref (s.heap.size + 5), .ref (s.heap.size + 6), .ref (s.heap.size + 7), .ref (s.heap.size + 8), .ref (s.heap.size + 9), .null, .int 0, .int 0, .int 0, .int 0])) (q := 85) 9 0 dX5_init_82 fRX5_39 (Or.inr ⟨ff_1_9, hin⟩) rfl rfl rfl hB rfl hz hlo (n_setV (Nat.le_of_ble_eq_true rfl) _) rfl (fun H locs hB hlo => ?_)
  have hB : hb s.heap H 10 [(h0, n_at D 1 15 (vp_V [.ref (s.heap.size + 0), .ref (s.heap.size + 1), .ref (s.heap.size + 2), .ref (s.heap.size + 3), .ref (s.heap.size + 4), .ref (s.heap.size + 5), .ref (s.heap.size + 6), .ref (s.heap.size + 7), .ref (s.heap.size + 8), .ref (s.heap.size + 9), .null, .int 0, .int 0, .int 0, .int 0])), (s.heap.size + 0, n_ar aI 100 (fun _ => 0)), (s.heap.size + 1, n_ar aI 49 (fun _ => 0)), (s.heap.size + 2, n_ar aI 49 (fun _ => 0)), (s.heap.size + 3, n_ar aI 49 (fun _ => 0)), (s.heap.size + 4, n_ar aI 360 (fun _ => 0)), (s.heap.size + 5, n_ar aI 6 (fun _ => 0)), (s.heap.size + 6, n_ar aI 6 (fun _ => 0)), (s.heap.size + 7, n_ar aI 6 (fun _ => 0)), (s.heap.size + 8, n_ar aI 6 (fun _ => 0)), (s.heap.size + 9, n_ar aI 6 (fun _ => 0))] := hB
  refine lv_aload_n cx.1 cx.2.1 dX5_init_85 rfl (lv_at hl 0 rfl) ?_
  refine lv_bipush cx.1 cx.2.1 dX5_init_86 (v := 6) rfl ?_
  refine N_newa cx hK w_ai (v := 6) (k := 6) (q := 90) (by decide) (by decide) (by decide) dX5_init_88 (Nat.le_of_ble_eq_true rfl) (Nat.le_of_ble_eq_true rfl) hB rfl (fun H hB => ?_)
  have hB : hb s.heap H 11 [(h0, n_at D 1 15 (vp_V [.ref (s.heap.size + 0), .ref (s.heap.size + 1), .ref (s.heap.size + 2), .ref (s.heap.size + 3), .ref (s.heap.size + 4), .ref (s.heap.size + 5), .ref (s.heap.size + 6), .ref (s.heap.size + 7), .ref (s.heap.size + 8), .ref (s.heap.size + 9), .null, .int 0, .int 0, .int 0, .int 0])), (s.heap.size + 0, n_ar aI 100 (fun _ => 0)), (s.heap.size + 1, n_ar aI 49 (fun _ => 0)), (s.heap.size + 2, n_ar aI 49 (fun _ => 0)), (s.heap.size + 3, n_ar aI 49 (fun _ => 0)), (s.heap.size + 4, n_ar aI 360 (fun _ => 0)), (s.heap.size + 5, n_ar aI 6 (fun _ => 0)), (s.heap.size + 6, n_ar aI 6 (fun _ => 0)), (s.heap.size + 7, n_ar aI 6 (fun _ => 0)), (s.heap.size + 8, n_ar aI 6 (fun _ => 0)), (s.heap.size + 9, n_ar aI 6 (fun _ => 0)), (s.heap.size + 10, n_ar aI 6 (fun _ => 0))] := hB
  refine W.eq (g2 := F0 m 90 la [.ref (s.heap.size + 10), .ref h0]) rfl ?_
  refine W.widen (k := 11) (n := 643) (Nat.le_of_ble_eq_true rfl) (Nat.le_of_ble_eq_true rfl) ?_
  refine N_put cx hK (ci := 1) (N := 15) (V' := (vp_V [.ref (s.heap.size + 0), .ref (s.heap.size + 1), .ref (s.heap.size + 2), .ref (s.heap.size + 3), .ref (s.heap.size + 4), .ref (s.heap.size + 5), .ref (s.heap.size + 6), .ref (s.heap.size + 7), .ref (s.heap.size + 8), .ref (s.heap.size + 9), .ref (s.heap.size + 10), .int 0, .int 0, .int 0, .int 0])) (q := 93) 10 0 dX5_init_90 fRX5_42 (Or.inr ⟨ff_1_10, hin⟩) rfl rfl rfl hB rfl hz hlo (n_setV (Nat.le_of_ble_eq_true rfl) _) rfl (fun H locs hB hlo => ?_)
  have hB : hb s.heap H 11 [(h0, n_at D 1 15 (vp_V [.ref (s.heap.size + 0), .ref (s.heap.size + 1), .ref (s.heap.size + 2), .ref (s.heap.size + 3), .ref (s.heap.size + 4), .ref (s.heap.size + 5), .ref (s.heap.size + 6), .ref (s.heap.size + 7), .ref (s.heap.size + 8), .ref (s.heap.size + 9), .ref (s.heap.size + 10), .int 0, .int 0, .int 0, .int 0])), (s.heap.size + 0, n_ar aI 100 (fun _ => 0)), (s.heap.size + 1, n_ar aI 49 (fun _ => 0)), (s.heap.size + 2, n_ar aI 49 (fun _ => 0)), (s.heap.size + 3, n_ar aI 49 (fun _ => 0)), (s.heap.size + 4, n_ar aI 360 (fun _ => 0)), (s.heap.size + 5, n_ar aI 6 (fun _ => 0)), (s.heap.size + 6, n_ar aI 6 (fun _ => 0)), (s.heap.size + 7, n_ar aI 6 (fun _ => 0)), (s.heap.size + 8, n_ar aI 6 (fun _ => 0)), (s.heap.size + 9, n_ar aI 6 (fun _ => 0)), (s.heap.size + 10, n_ar aI 6 (fun _ => 0))] := hB
  have hlocks := cx.2.2.2.2.2.2
  exact W.vret cx.1 cx.2.1 cx.2.2.1 (fun t ht hW => ⟨rfl, by rw [ht]; exact hB⟩) hlo dX5_init_93
theorem ff_4_0 : j_FF RX9 4 0 (.array .int) := ⟨RX9, TX9, 8, tyX9, rfl, tyX9_ok, nmX9, rfl, rfl, by decide +kernel⟩
theorem ff_4_1 : j_FF RX9 4 1 (.array .int) := ⟨RX9, TX9, 8, tyX9, rfl, tyX9_ok, nmX9, rfl, rfl, by decide +kernel⟩
theorem ff_4_2 : j_FF RX9 4 2 (.array .int) := ⟨RX9, TX9, 8, tyX9, rfl, tyX9_ok, nmX9, rfl, rfl, by decide +kernel⟩
theorem ff_4_3 : j_FF RX9 4 3 (.array .int) := ⟨RX9, TX9, 8, tyX9, rfl, tyX9_ok, nmX9, rfl, rfl, by decide +kernel⟩
theorem ff_4_4 : j_FF RX9 4 4 (.array .int) := ⟨RX9, TX9, 8, tyX9, rfl, tyX9_ok, nmX9, rfl, rfl, by decide +kernel⟩
theorem dX9_init_0 : decode cX9_init 0 = .ok (.aload_n 0, 1) := by decide +kernel
theorem dX9_init_1 : decode cX9_init 1 = .ok (.invokespecial 3, 3) := by decide +kernel
theorem dX9_init_4 : decode cX9_init 4 = .ok (.aload_n 0, 1) := by decide +kernel
theorem dX9_init_5 : decode cX9_init 5 = .ok (.sipush 1200, 3) := by decide +kernel
theorem dX9_init_8 : decode cX9_init 8 = .ok (.newarray .int, 2) := by decide +kernel
theorem dX9_init_10 : decode cX9_init 10 = .ok (.putfield 9, 3) := by decide +kernel
theorem dX9_init_13 : decode cX9_init 13 = .ok (.aload_n 0, 1) := by decide +kernel
theorem dX9_init_14 : decode cX9_init 14 = .ok (.bipush 6, 2) := by decide +kernel
theorem dX9_init_16 : decode cX9_init 16 = .ok (.newarray .int, 2) := by decide +kernel
theorem dX9_init_18 : decode cX9_init 18 = .ok (.putfield 15, 3) := by decide +kernel
theorem dX9_init_21 : decode cX9_init 21 = .ok (.aload_n 0, 1) := by decide +kernel
theorem dX9_init_22 : decode cX9_init 22 = .ok (.bipush 6, 2) := by decide +kernel
theorem dX9_init_24 : decode cX9_init 24 = .ok (.newarray .int, 2) := by decide +kernel
theorem dX9_init_26 : decode cX9_init 26 = .ok (.putfield 18, 3) := by decide +kernel
theorem dX9_init_29 : decode cX9_init 29 = .ok (.aload_n 0, 1) := by decide +kernel
theorem dX9_init_30 : decode cX9_init 30 = .ok (.bipush 6, 2) := by decide +kernel
theorem dX9_init_32 : decode cX9_init 32 = .ok (.newarray .int, 2) := by decide +kernel
theorem dX9_init_34 : decode cX9_init 34 = .ok (.putfield 21, 3) := by decide +kernel
theorem dX9_init_37 : decode cX9_init 37 = .ok (.aload_n 0, 1) := by decide +kernel
theorem dX9_init_38 : decode cX9_init 38 = .ok (.bipush 24, 2) := by decide +kernel
theorem dX9_init_40 : decode cX9_init 40 = .ok (.newarray .int, 2) := by decide +kernel
theorem dX9_init_42 : decode cX9_init 42 = .ok (.putfield 24, 3) := by decide +kernel
theorem dX9_init_45 : decode cX9_init 45 = .ok (.return_, 1) := by decide +kernel
set_option maxRecDepth 100000 in
set_option maxHeartbeats 4000000 in
theorem c_X9_init (l : Launch) (D : va_G) (aI aB : ClassId) (z h0 : Nat) : Met l yX9_init (Cond.code yX9_init cX9_init 1 none :: j_ws) { frames := 1, cells := 5, slots := 1242, locals := 20 } (n_Pc D aI aB z h0 4 8 (vp_V [.null, .null, .null, .null, .null, .int 0, .int 0, .int 0]) [.ref h0]) (n_Q 5 (fun sz => [(h0, n_at D 4 8 (vp_V [.ref (sz + 0), .ref (sz + 1), .ref (sz + 2), .ref (sz + 3), .ref (sz + 4), .int 0, .int 0, .int 0])), (sz + 0, n_ar aI 1200 (fun _ => 0)), (sz + 1, n_ar aI 6 (fun _ => 0)), (sz + 2, n_ar aI 6 (fun _ => 0)), (sz + 3, n_ar aI 6 (fun _ => 0)), (sz + 4, n_ar aI 24 (fun _ => 0))])) 5 1242 (fun q => z ≤ q) := by
  refine Met.ofW (cc := cX9_init) (maxL := 1) (ret := none) (by decide +kernel) rfl ?_
  intro p e s m args below meth c s₁ B hml hv
  obtain ⟨rfl, hK, hraw, hz, hN⟩ := hv
  have hts := atoms_spec (ws := Cond.code yX9_init cX9_init 1 none :: j_ws) B.pre
  have cx : j_Cx yX9_init cX9_init 1 none p s m _ meth c := ⟨B.exec, B.bytes, B.returns, hml, fun w hw => hts w (List.mem_cons_of_mem _ hw), findClass_of_methodNamed B.named, B.notSynchronized⟩
  have hin : meth.name = "<init>" := (name_of_methodNamed B.named B.method).1
  have hl := lv_entry ([.ref h0]) (n := 1) (Nat.le_of_ble_eq_true rfl)
  rw [lg_entry_eq]
  generalize (lg_sl ([.ref h0]) ++ List.replicate (1 - (lg_sl ([.ref h0])).length) Slot.unset).toArray = la at hl ⊢
  have hl : lv_has la 1 [(0, .ref h0)] := hl
  have hB := hb.one hraw
  have hlo : ∀ q ∈ ([] : List Loc), z ≤ q.base := fun q hq => by cases hq
  have hz9 : ∀ {k : Nat}, z ≤ s.heap.size + k := fun {k} => by
    obtain ⟨c9, hc9, -⟩ := hraw
    have := (Array.getElem?_eq_some_iff.mp hc9).1
    omega
  refine lv_aload_n cx.1 cx.2.1 dX9_init_0 rfl (lv_at hl 0 rfl) ?_
  refine W.objInit cx.1 cx.2.1 cx.2.2.2.2.2.1 (cx.2.2.2.2.1 _ (j_in 291 (by decide +kernel) (by decide +kernel))) (cx.2.2.2.2.1 _ w_oi) (cx.2.2.2.2.1 _ w_oc) rfl (by rw [hml]; exact hl.1) rfl dX9_init_1 (Nat.le_of_ble_eq_true rfl) (Nat.le_of_ble_eq_true rfl) ?_
  refine W.eq (g2 := F0 m 4 la []) rfl ?_
  refine lv_aload_n cx.1 cx.2.1 dX9_init_4 rfl (lv_at hl 0 rfl) ?_
  refine lv_sipush cx.1 cx.2.1 dX9_init_5 (v := 1200) rfl ?_
  refine N_newa cx hK w_ai (v := 1200) (k := 1200) (q := 10) (by decide) (by decide) (by decide) dX9_init_8 (Nat.le_of_ble_eq_true rfl) (Nat.le_of_ble_eq_true rfl) hB rfl (fun H hB => ?_)
  have hB : hb s.heap H 1 [(h0, n_at D 4 8 (vp_V [.null, .null, .null, .null, .null, .int 0, .int 0, .int 0])), (s.heap.size + 0, n_ar aI 1200 (fun _ => 0))] := hB
  refine W.eq (g2 := F0 m 10 la [.ref (s.heap.size + 0), .ref h0]) rfl ?_
  refine W.widen (k := 1) (n := 1200) (Nat.le_of_ble_eq_true rfl) (Nat.le_of_ble_eq_true rfl) ?_
  refine N_put cx hK (ci := 4) (N := 8) (V' := (vp_V [.ref (s.heap.size + 0), .null, .null, .null, .null, .int 0, .int 0, .int 0])) (q := 13) 0 0 dX9_init_10 fRX9_9 (Or.inr ⟨ff_4_0, hin⟩) rfl rfl rfl hB rfl hz hlo (n_setV (Nat.le_of_ble_eq_true rfl) _) rfl (fun H locs hB hlo => ?_)
  have hB : hb s.heap H 1 [(h0, n_at D 4 8 (vp_V [.ref (s.heap.size + 0), .null, .null, .null, .null, .int 0, .int 0, .int 0])), (s.heap.size + 0, n_ar aI 1200 (fun _ => 0))] := hB
  refine lv_aload_n cx.1 cx.2.1 dX9_init_13 rfl (lv_at hl 0 rfl) ?_
  refine lv_bipush cx.1 cx.2.1 dX9_init_14 (v := 6) rfl ?_
  refine N_newa cx hK w_ai (v := 6) (k := 6) (q := 18) (by decide) (by decide) (by decide) dX9_init_16 (Nat.le_of_ble_eq_true rfl) (Nat.le_of_ble_eq_true rfl) hB rfl (fun H hB => ?_)
  have hB : hb s.heap H 2 [(h0, n_at D 4 8 (vp_V [.ref (s.heap.size + 0), .null, .null, .null, .null, .int 0, .int 0, .int 0])), (s.heap.size + 0, n_ar aI 1200 (fun _ => 0)), (s.heap.size + 1, n_ar aI 6 (fun _ => 0))] := hB
  refine W.eq (g2 := F0 m 18 la [.ref (s.heap.size + 1), .ref h0]) rfl ?_
  refine W.widen (k := 2) (n := 1206) (Nat.le_of_ble_eq_true rfl) (Nat.le_of_ble_eq_true rfl) ?_
  refine N_put cx hK (ci := 4) (N := 8) (V' := (vp_V [.ref (s.heap.size + 0), .ref (s.heap.size + 1), .null, .null, .null, .int 0, .int 0, .int 0])) (q := 21) 1 0 dX9_init_18 fRX9_15 (Or.inr ⟨ff_4_1, hin⟩) rfl rfl rfl hB rfl hz hlo (n_setV (Nat.le_of_ble_eq_true rfl) _) rfl (fun H locs hB hlo => ?_)
  have hB : hb s.heap H 2 [(h0, n_at D 4 8 (vp_V [.ref (s.heap.size + 0), .ref (s.heap.size + 1), .null, .null, .null, .int 0, .int 0, .int 0])), (s.heap.size + 0, n_ar aI 1200 (fun _ => 0)), (s.heap.size + 1, n_ar aI 6 (fun _ => 0))] := hB
  refine lv_aload_n cx.1 cx.2.1 dX9_init_21 rfl (lv_at hl 0 rfl) ?_
  refine lv_bipush cx.1 cx.2.1 dX9_init_22 (v := 6) rfl ?_
  refine N_newa cx hK w_ai (v := 6) (k := 6) (q := 26) (by decide) (by decide) (by decide) dX9_init_24 (Nat.le_of_ble_eq_true rfl) (Nat.le_of_ble_eq_true rfl) hB rfl (fun H hB => ?_)
  have hB : hb s.heap H 3 [(h0, n_at D 4 8 (vp_V [.ref (s.heap.size + 0), .ref (s.heap.size + 1), .null, .null, .null, .int 0, .int 0, .int 0])), (s.heap.size + 0, n_ar aI 1200 (fun _ => 0)), (s.heap.size + 1, n_ar aI 6 (fun _ => 0)), (s.heap.size + 2, n_ar aI 6 (fun _ => 0))] := hB
  refine W.eq (g2 := F0 m 26 la [.ref (s.heap.size + 2), .ref h0]) rfl ?_
  refine W.widen (k := 3) (n := 1212) (Nat.le_of_ble_eq_true rfl) (Nat.le_of_ble_eq_true rfl) ?_
  refine N_put cx hK (ci := 4) (N := 8) (V' := (vp_V [.ref (s.heap.size + 0), .ref (s.heap.size + 1), .ref (s.heap.size + 2), .null, .null, .int 0, .int 0, .int 0])) (q := 29) 2 0 dX9_init_26 fRX9_18 (Or.inr ⟨ff_4_2, hin⟩) rfl rfl rfl hB rfl hz hlo (n_setV (Nat.le_of_ble_eq_true rfl) _) rfl (fun H locs hB hlo => ?_)
  have hB : hb s.heap H 3 [(h0, n_at D 4 8 (vp_V [.ref (s.heap.size + 0), .ref (s.heap.size + 1), .ref (s.heap.size + 2), .null, .null, .int 0, .int 0, .int 0])), (s.heap.size + 0, n_ar aI 1200 (fun _ => 0)), (s.heap.size + 1, n_ar aI 6 (fun _ => 0)), (s.heap.size + 2, n_ar aI 6 (fun _ => 0))] := hB
  refine lv_aload_n cx.1 cx.2.1 dX9_init_29 rfl (lv_at hl 0 rfl) ?_
  refine lv_bipush cx.1 cx.2.1 dX9_init_30 (v := 6) rfl ?_
  refine N_newa cx hK w_ai (v := 6) (k := 6) (q := 34) (by decide) (by decide) (by decide) dX9_init_32 (Nat.le_of_ble_eq_true rfl) (Nat.le_of_ble_eq_true rfl) hB rfl (fun H hB => ?_)
  have hB : hb s.heap H 4 [(h0, n_at D 4 8 (vp_V [.ref (s.heap.size + 0), .ref (s.heap.size + 1), .ref (s.heap.size + 2), .null, .null, .int 0, .int 0, .int 0])), (s.heap.size + 0, n_ar aI 1200 (fun _ => 0)), (s.heap.size + 1, n_ar aI 6 (fun _ => 0)), (s.heap.size + 2, n_ar aI 6 (fun _ => 0)), (s.heap.size + 3, n_ar aI 6 (fun _ => 0))] := hB
  refine W.eq (g2 := F0 m 34 la [.ref (s.heap.size + 3), .ref h0]) rfl ?_
  refine W.widen (k := 4) (n := 1218) (Nat.le_of_ble_eq_true rfl) (Nat.le_of_ble_eq_true rfl) ?_
  refine N_put cx hK (ci := 4) (N := 8) (V' := (vp_V [.ref (s.heap.size + 0), .ref (s.heap.size + 1), .ref (s.heap.size + 2), .ref (s.heap.size + 3), .null, .int 0, .int 0, .int 0])) (q := 37) 3 0 dX9_init_34 fRX9_21 (Or.inr ⟨ff_4_3, hin⟩) rfl rfl rfl hB rfl hz hlo (n_setV (Nat.le_of_ble_eq_true rfl) _) rfl (fun H locs hB hlo => ?_)
  have hB : hb s.heap H 4 [(h0, n_at D 4 8 (vp_V [.ref (s.heap.size + 0), .ref (s.heap.size + 1), .ref (s.heap.size + 2), .ref (s.heap.size + 3), .null, .int 0, .int 0, .int 0])), (s.heap.size + 0, n_ar aI 1200 (fun _ => 0)), (s.heap.size + 1, n_ar aI 6 (fun _ => 0)), (s.heap.size + 2, n_ar aI 6 (fun _ => 0)), (s.heap.size + 3, n_ar aI 6 (fun _ => 0))] := hB
  refine lv_aload_n cx.1 cx.2.1 dX9_init_37 rfl (lv_at hl 0 rfl) ?_
  refine lv_bipush cx.1 cx.2.1 dX9_init_38 (v := 24) rfl ?_
  refine N_newa cx hK w_ai (v := 24) (k := 24) (q := 42) (by decide) (by decide) (by decide) dX9_init_40 (Nat.le_of_ble_eq_true rfl) (Nat.le_of_ble_eq_true rfl) hB rfl (fun H hB => ?_)
  have hB : hb s.heap H 5 [(h0, n_at D 4 8 (vp_V [.ref (s.heap.size + 0), .ref (s.heap.size + 1), .ref (s.heap.size + 2), .ref (s.heap.size + 3), .null, .int 0, .int 0, .int 0])), (s.heap.size + 0, n_ar aI 1200 (fun _ => 0)), (s.heap.size + 1, n_ar aI 6 (fun _ => 0)), (s.heap.size + 2, n_ar aI 6 (fun _ => 0)), (s.heap.size + 3, n_ar aI 6 (fun _ => 0)), (s.heap.size + 4, n_ar aI 24 (fun _ => 0))] := hB
  refine W.eq (g2 := F0 m 42 la [.ref (s.heap.size + 4), .ref h0]) rfl ?_
  refine W.widen (k := 5) (n := 1242) (Nat.le_of_ble_eq_true rfl) (Nat.le_of_ble_eq_true rfl) ?_
  refine N_put cx hK (ci := 4) (N := 8) (V' := (vp_V [.ref (s.heap.size + 0), .ref (s.heap.size + 1), .ref (s.heap.size + 2), .ref (s.heap.size + 3), .ref (s.heap.size + 4), .int 0, .int 0, .int 0])) (q := 45) 4 0 dX9_init_42 fRX9_24 (Or.inr ⟨ff_4_4, hin⟩) rfl rfl rfl hB rfl hz hlo (n_setV (Nat.le_of_ble_eq_true rfl) _) rfl (fun H locs hB hlo => ?_)
  have hB : hb s.heap H 5 [(h0, n_at D 4 8 (vp_V [.ref (s.heap.size + 0), .ref (s.heap.size + 1), .ref (s.heap.size + 2), .ref (s.heap.size + 3), .ref (s.heap.size + 4), .int 0, .int 0, .int 0])), (s.heap.size + 0, n_ar aI 1200 (fun _ => 0)), (s.heap.size + 1, n_ar aI 6 (fun _ => 0)), (s.heap.size + 2, n_ar aI 6 (fun _ => 0)), (s.heap.size + 3, n_ar aI 6 (fun _ => 0)), (s.heap.size + 4, n_ar aI 24 (fun _ => 0))] := hB
  have hlocks := cx.2.2.2.2.2.2
  exact W.vret cx.1 cx.2.1 cx.2.2.1 (fun t ht hW => ⟨rfl, by rw [ht]; exact hB⟩) hlo dX9_init_45
theorem ff_3_0 : j_FF RX8 3 0 (.array .int) := ⟨RX8, TX8, 13, tyX8, rfl, tyX8_ok, nmX8, rfl, rfl, by decide +kernel⟩
theorem ff_3_1 : j_FF RX8 3 1 (.array .int) := ⟨RX8, TX8, 13, tyX8, rfl, tyX8_ok, nmX8, rfl, rfl, by decide +kernel⟩
theorem ff_3_2 : j_FF RX8 3 2 (.array .int) := ⟨RX8, TX8, 13, tyX8, rfl, tyX8_ok, nmX8, rfl, rfl, by decide +kernel⟩
theorem ff_3_3 : j_FF RX8 3 3 (.array .int) := ⟨RX8, TX8, 13, tyX8, rfl, tyX8_ok, nmX8, rfl, rfl, by decide +kernel⟩
theorem dX8_init_0 : decode cX8_init 0 = .ok (.aload_n 0, 1) := by decide +kernel
theorem dX8_init_1 : decode cX8_init 1 = .ok (.invokespecial 3, 3) := by decide +kernel
theorem dX8_init_4 : decode cX8_init 4 = .ok (.aload_n 0, 1) := by decide +kernel
theorem dX8_init_5 : decode cX8_init 5 = .ok (.sipush 400, 3) := by decide +kernel
theorem dX8_init_8 : decode cX8_init 8 = .ok (.newarray .int, 2) := by decide +kernel
theorem dX8_init_10 : decode cX8_init 10 = .ok (.putfield 11, 3) := by decide +kernel
theorem dX8_init_13 : decode cX8_init 13 = .ok (.aload_n 0, 1) := by decide +kernel
theorem dX8_init_14 : decode cX8_init 14 = .ok (.sipush 200, 3) := by decide +kernel
theorem dX8_init_17 : decode cX8_init 17 = .ok (.newarray .int, 2) := by decide +kernel
theorem dX8_init_19 : decode cX8_init 19 = .ok (.putfield 15, 3) := by decide +kernel
theorem dX8_init_22 : decode cX8_init 22 = .ok (.aload_n 0, 1) := by decide +kernel
theorem dX8_init_23 : decode cX8_init 23 = .ok (.iconst 3, 1) := by decide +kernel
theorem dX8_init_24 : decode cX8_init 24 = .ok (.newarray .int, 2) := by decide +kernel
theorem dX8_init_26 : decode cX8_init 26 = .ok (.putfield 18, 3) := by decide +kernel
theorem dX8_init_29 : decode cX8_init 29 = .ok (.aload_n 0, 1) := by decide +kernel
theorem dX8_init_30 : decode cX8_init 30 = .ok (.iconst 3, 1) := by decide +kernel
theorem dX8_init_31 : decode cX8_init 31 = .ok (.newarray .int, 2) := by decide +kernel
theorem dX8_init_33 : decode cX8_init 33 = .ok (.putfield 21, 3) := by decide +kernel
theorem dX8_init_36 : decode cX8_init 36 = .ok (.aload_n 0, 1) := by decide +kernel
theorem dX8_init_37 : decode cX8_init 37 = .ok (.iconst (-1), 1) := by decide +kernel
theorem dX8_init_38 : decode cX8_init 38 = .ok (.putfield 24, 3) := by decide +kernel
theorem dX8_init_41 : decode cX8_init 41 = .ok (.return_, 1) := by decide +kernel
set_option maxRecDepth 100000 in
set_option maxHeartbeats 4000000 in
theorem c_X8_init (l : Launch) (D : va_G) (aI aB : ClassId) (z h0 : Nat) : Met l yX8_init (Cond.code yX8_init cX8_init 1 none :: j_ws) { frames := 1, cells := 4, slots := 606, locals := 20 } (n_Pc D aI aB z h0 3 13 (vp_V [.null, .null, .null, .null, .int 0, .int 0, .int 0, .int 0, .int 0, .int 0, .int 0, .int 0, .int 0]) [.ref h0]) (n_Q 4 (fun sz => [(h0, n_at D 3 13 (vp_V [.ref (sz + 0), .ref (sz + 1), .ref (sz + 2), .ref (sz + 3), .int 0, .int 0, .int (-1), .int 0, .int 0, .int 0, .int 0, .int 0, .int 0])), (sz + 0, n_ar aI 400 (fun _ => 0)), (sz + 1, n_ar aI 200 (fun _ => 0)), (sz + 2, n_ar aI 3 (fun _ => 0)), (sz + 3, n_ar aI 3 (fun _ => 0))])) 4 606 (fun q => z ≤ q) := by
  refine Met.ofW (cc := cX8_init) (maxL := 1) (ret := none) (by decide +kernel) rfl ?_
  intro p e s m args below meth c s₁ B hml hv
  obtain ⟨rfl, hK, hraw, hz, hN⟩ := hv
  have hts := atoms_spec (ws := Cond.code yX8_init cX8_init 1 none :: j_ws) B.pre
  have cx : j_Cx yX8_init cX8_init 1 none p s m _ meth c := ⟨B.exec, B.bytes, B.returns, hml, fun w hw => hts w (List.mem_cons_of_mem _ hw), findClass_of_methodNamed B.named, B.notSynchronized⟩
  have hin : meth.name = "<init>" := (name_of_methodNamed B.named B.method).1
  have hl := lv_entry ([.ref h0]) (n := 1) (Nat.le_of_ble_eq_true rfl)
  rw [lg_entry_eq]
  generalize (lg_sl ([.ref h0]) ++ List.replicate (1 - (lg_sl ([.ref h0])).length) Slot.unset).toArray = la at hl ⊢
  have hl : lv_has la 1 [(0, .ref h0)] := hl
  have hB := hb.one hraw
  have hlo : ∀ q ∈ ([] : List Loc), z ≤ q.base := fun q hq => by cases hq
  have hz9 : ∀ {k : Nat}, z ≤ s.heap.size + k := fun {k} => by
    obtain ⟨c9, hc9, -⟩ := hraw
    have := (Array.getElem?_eq_some_iff.mp hc9).1
    omega
  refine lv_aload_n cx.1 cx.2.1 dX8_init_0 rfl (lv_at hl 0 rfl) ?_
  refine W.objInit cx.1 cx.2.1 cx.2.2.2.2.2.1 (cx.2.2.2.2.1 _ (j_in 347 (by decide +kernel) (by decide +kernel))) (cx.2.2.2.2.1 _ w_oi) (cx.2.2.2.2.1 _ w_oc) rfl (by rw [hml]; exact hl.1) rfl dX8_init_1 (Nat.le_of_ble_eq_true rfl) (Nat.le_of_ble_eq_true rfl) ?_
  refine W.eq (g2 := F0 m 4 la []) rfl ?_
  refine lv_aload_n cx.1 cx.2.1 dX8_init_4 rfl (lv_at hl 0 rfl) ?_
  refine lv_sipush cx.1 cx.2.1 dX8_init_5 (v := 400) rfl ?_
  refine N_newa cx hK w_ai (v := 400) (k := 400) (q := 10) (by decide) (by decide) (by decide) dX8_init_8 (Nat.le_of_ble_eq_true rfl) (Nat.le_of_ble_eq_true rfl) hB rfl (fun H hB => ?_)
  have hB : hb s.heap H 1 [(h0, n_at D 3 13 (vp_V [.null, .null, .null, .null, .int 0, .int 0, .int 0, .int 0, .int 0, .int 0, .int 0, .int 0, .int 0])), (s.heap.size + 0, n_ar aI 400 (fun _ => 0))] := hB
  refine W.eq (g2 := F0 m 10 la [.ref (s.heap.size + 0), .ref h0]) rfl ?_
  refine W.widen (k := 1) (n := 400) (Nat.le_of_ble_eq_true rfl) (Nat.le_of_ble_eq_true rfl) ?_
  refine N_put cx hK (ci := 3) (N := 13) (V' := (vp_V [.ref (s.heap.size + 0), .null, .null, .null, .int 0, .int 0, .int 0, .int 0, .int 0, .int 0, .int 0, .int 0, .int 0])) (q := 13) 0 0 dX8_init_10 fRX8_11 (Or.inr ⟨ff_3_0, hin⟩) rfl rfl rfl hB rfl hz hlo (n_setV (Nat.le_of_ble_eq_true rfl) _) rfl (fun H locs hB hlo => ?_)
  have hB : hb s.heap H 1 [(h0, n_at D 3 13 (vp_V [.ref (s.heap.size + 0), .null, .null, .null, .int 0, .int 0, .int 0, .int 0, .int 0, .int 0, .int 0, .int 0, .int 0])), (s.heap.size + 0, n_ar aI 400 (fun _ => 0))] := hB
  refine lv_aload_n cx.1 cx.2.1 dX8_init_13 rfl (lv_at hl 0 rfl) ?_
  refine lv_sipush cx.1 cx.2.1 dX8_init_14 (v := 200) rfl ?_
  refine N_newa cx hK w_ai (v := 200) (k := 200) (q := 19) (by decide) (by decide) (by decide) dX8_init_17 (Nat.le_of_ble_eq_true rfl) (Nat.le_of_ble_eq_true rfl) hB rfl (fun H hB => ?_)
  have hB : hb s.heap H 2 [(h0, n_at D 3 13 (vp_V [.ref (s.heap.size + 0), .null, .null, .null, .int 0, .int 0, .int 0, .int 0, .int 0, .int 0, .int 0, .int 0, .int 0])), (s.heap.size + 0, n_ar aI 400 (fun _ => 0)), (s.heap.size + 1, n_ar aI 200 (fun _ => 0))] := hB
  refine W.eq (g2 := F0 m 19 la [.ref (s.heap.size + 1), .ref h0]) rfl ?_
  refine W.widen (k := 2) (n := 600) (Nat.le_of_ble_eq_true rfl) (Nat.le_of_ble_eq_true rfl) ?_
  refine N_put cx hK (ci := 3) (N := 13) (V' := (vp_V [.ref (s.heap.size + 0), .ref (s.heap.size + 1), .null, .null, .int 0, .int 0, .int 0, .int 0, .int 0, .int 0, .int 0, .int 0, .int 0])) (q := 22) 1 0 dX8_init_19 fRX8_15 (Or.inr ⟨ff_3_1, hin⟩) rfl rfl rfl hB rfl hz hlo (n_setV (Nat.le_of_ble_eq_true rfl) _) rfl (fun H locs hB hlo => ?_)
  have hB : hb s.heap H 2 [(h0, n_at D 3 13 (vp_V [.ref (s.heap.size + 0), .ref (s.heap.size + 1), .null, .null, .int 0, .int 0, .int 0, .int 0, .int 0, .int 0, .int 0, .int 0, .int 0])), (s.heap.size + 0, n_ar aI 400 (fun _ => 0)), (s.heap.size + 1, n_ar aI 200 (fun _ => 0))] := hB
  refine lv_aload_n cx.1 cx.2.1 dX8_init_22 rfl (lv_at hl 0 rfl) ?_
  refine lv_iconst cx.1 cx.2.1 dX8_init_23 (v := 3) rfl ?_
  refine N_newa cx hK w_ai (v := 3) (k := 3) (q := 26) (by decide) (by decide) (by decide) dX8_init_24 (Nat.le_of_ble_eq_true rfl) (Nat.le_of_ble_eq_true rfl) hB rfl (fun H hB => ?_)
  have hB : hb s.heap H 3 [(h0, n_at D 3 13 (vp_V [.ref (s.heap.size + 0), .ref (s.heap.size + 1), .null, .null, .int 0, .int 0, .int 0, .int 0, .int 0, .int 0, .int 0, .int 0, .int 0])), (s.heap.size + 0, n_ar aI 400 (fun _ => 0)), (s.heap.size + 1, n_ar aI 200 (fun _ => 0)), (s.heap.size + 2, n_ar aI 3 (fun _ => 0))] := hB
  refine W.eq (g2 := F0 m 26 la [.ref (s.heap.size + 2), .ref h0]) rfl ?_
  refine W.widen (k := 3) (n := 603) (Nat.le_of_ble_eq_true rfl) (Nat.le_of_ble_eq_true rfl) ?_
  refine N_put cx hK (ci := 3) (N := 13) (V' := (vp_V [.ref (s.heap.size + 0), .ref (s.heap.size + 1), .ref (s.heap.size + 2), .null, .int 0, .int 0, .int 0, .int 0, .int 0, .int 0, .int 0, .int 0, .int 0])) (q := 29) 2 0 dX8_init_26 fRX8_18 (Or.inr ⟨ff_3_2, hin⟩) rfl rfl rfl hB rfl hz hlo (n_setV (Nat.le_of_ble_eq_true rfl) _) rfl (fun H locs hB hlo => ?_)
  have hB : hb s.heap H 3 [(h0, n_at D 3 13 (vp_V [.ref (s.heap.size + 0), .ref (s.heap.size + 1), .ref (s.heap.size + 2), .null, .int 0, .int 0, .int 0, .int 0, .int 0, .int 0, .int 0, .int 0, .int 0])), (s.heap.size + 0, n_ar aI 400 (fun _ => 0)), (s.heap.size + 1, n_ar aI 200 (fun _ => 0)), (s.heap.size + 2, n_ar aI 3 (fun _ => 0))] := hB
  refine lv_aload_n cx.1 cx.2.1 dX8_init_29 rfl (lv_at hl 0 rfl) ?_
  refine lv_iconst cx.1 cx.2.1 dX8_init_30 (v := 3) rfl ?_
  refine N_newa cx hK w_ai (v := 3) (k := 3) (q := 33) (by decide) (by decide) (by decide) dX8_init_31 (Nat.le_of_ble_eq_true rfl) (Nat.le_of_ble_eq_true rfl) hB rfl (fun H hB => ?_)
  have hB : hb s.heap H 4 [(h0, n_at D 3 13 (vp_V [.ref (s.heap.size + 0), .ref (s.heap.size + 1), .ref (s.heap.size + 2), .null, .int 0, .int 0, .int 0, .int 0, .int 0, .int 0, .int 0, .int 0, .int 0])), (s.heap.size + 0, n_ar aI 400 (fun _ => 0)), (s.heap.size + 1, n_ar aI 200 (fun _ => 0)), (s.heap.size + 2, n_ar aI 3 (fun _ => 0)), (s.heap.size + 3, n_ar aI 3 (fun _ => 0))] := hB
  refine W.eq (g2 := F0 m 33 la [.ref (s.heap.size + 3), .ref h0]) rfl ?_
  refine W.widen (k := 4) (n := 606) (Nat.le_of_ble_eq_true rfl) (Nat.le_of_ble_eq_true rfl) ?_
  refine N_put cx hK (ci := 3) (N := 13) (V' := (vp_V [.ref (s.heap.size + 0), .ref (s.heap.size + 1), .ref (s.heap.size + 2), .ref (s.heap.size + 3), .int 0, .int 0, .int 0, .int 0, .int 0, .int 0, .int 0, .int 0, .int 0])) (q := 36) 3 0 dX8_init_33 fRX8_21 (Or.inr ⟨ff_3_3, hin⟩) rfl rfl rfl hB rfl hz hlo (n_setV (Nat.le_of_ble_eq_true rfl) _) rfl (fun H locs hB hlo => ?_)
  have hB : hb s.heap H 4 [(h0, n_at D 3 13 (vp_V [.ref (s.heap.size + 0), .ref (s.heap.size + 1), .ref (s.heap.size + 2), .ref (s.heap.size + 3), .int 0, .int 0, .int 0, .int 0, .int 0, .int 0, .int 0, .int 0, .int 0])), (s.heap.size + 0, n_ar aI 400 (fun _ => 0)), (s.heap.size + 1, n_ar aI 200 (fun _ => 0)), (s.heap.size + 2, n_ar aI 3 (fun _ => 0)), (s.heap.size + 3, n_ar aI 3 (fun _ => 0))] := hB
  refine lv_aload_n cx.1 cx.2.1 dX8_init_36 rfl (lv_at hl 0 rfl) ?_
  refine lv_iconst cx.1 cx.2.1 dX8_init_37 (v := -1) rfl ?_
  refine N_put cx hK (ci := 3) (N := 13) (V' := (vp_V [.ref (s.heap.size + 0), .ref (s.heap.size + 1), .ref (s.heap.size + 2), .ref (s.heap.size + 3), .int 0, .int 0, .int (-1), .int 0, .int 0, .int 0, .int 0, .int 0, .int 0])) (q := 41) 6 0 dX8_init_38 fRX8_24 (Or.inl fp_3_6) rfl rfl rfl hB rfl hz hlo (n_setV (Nat.le_of_ble_eq_true rfl) _) rfl (fun H locs hB hlo => ?_)
  have hB : hb s.heap H 4 [(h0, n_at D 3 13 (vp_V [.ref (s.heap.size + 0), .ref (s.heap.size + 1), .ref (s.heap.size + 2), .ref (s.heap.size + 3), .int 0, .int 0, .int (-1), .int 0, .int 0, .int 0, .int 0, .int 0, .int 0])), (s.heap.size + 0, n_ar aI 400 (fun _ => 0)), (s.heap.size + 1, n_ar aI 200 (fun _ => 0)), (s.heap.size + 2, n_ar aI 3 (fun _ => 0)), (s.heap.size + 3, n_ar aI 3 (fun _ => 0))] := hB
  have hlocks := cx.2.2.2.2.2.2
  exact W.vret cx.1 cx.2.1 cx.2.2.1 (fun t ht hW => ⟨rfl, by rw [ht]; exact hB⟩) hlo dX8_init_41
theorem ff_5_0 : j_FF RX10 5 0 (.array .int) := ⟨RX10, TX10, 17, tyX10, rfl, tyX10_ok, nmX10, rfl, rfl, by decide +kernel⟩
theorem ff_5_1 : j_FF RX10 5 1 (.array .int) := ⟨RX10, TX10, 17, tyX10, rfl, tyX10_ok, nmX10, rfl, rfl, by decide +kernel⟩
theorem ff_5_2 : j_FF RX10 5 2 (.array .int) := ⟨RX10, TX10, 17, tyX10, rfl, tyX10_ok, nmX10, rfl, rfl, by decide +kernel⟩
theorem ff_5_3 : j_FF RX10 5 3 (.array .int) := ⟨RX10, TX10, 17, tyX10, rfl, tyX10_ok, nmX10, rfl, rfl, by decide +kernel⟩
theorem ff_5_4 : j_FF RX10 5 4 (.array .int) := ⟨RX10, TX10, 17, tyX10, rfl, tyX10_ok, nmX10, rfl, rfl, by decide +kernel⟩
theorem ff_5_5 : j_FF RX10 5 5 (.array .int) := ⟨RX10, TX10, 17, tyX10, rfl, tyX10_ok, nmX10, rfl, rfl, by decide +kernel⟩
theorem ff_5_6 : j_FF RX10 5 6 (.array .int) := ⟨RX10, TX10, 17, tyX10, rfl, tyX10_ok, nmX10, rfl, rfl, by decide +kernel⟩
theorem ff_5_7 : j_FF RX10 5 7 (.array .int) := ⟨RX10, TX10, 17, tyX10, rfl, tyX10_ok, nmX10, rfl, rfl, by decide +kernel⟩
theorem ff_5_8 : j_FF RX10 5 8 (.array .int) := ⟨RX10, TX10, 17, tyX10, rfl, tyX10_ok, nmX10, rfl, rfl, by decide +kernel⟩
theorem ff_5_9 : j_FF RX10 5 9 (.array .int) := ⟨RX10, TX10, 17, tyX10, rfl, tyX10_ok, nmX10, rfl, rfl, by decide +kernel⟩
theorem dX10_init_0 : decode cX10_init 0 = .ok (.aload_n 0, 1) := by decide +kernel
theorem dX10_init_1 : decode cX10_init 1 = .ok (.invokespecial 5, 3) := by decide +kernel
theorem dX10_init_4 : decode cX10_init 4 = .ok (.aload_n 0, 1) := by decide +kernel
theorem dX10_init_5 : decode cX10_init 5 = .ok (.iconst 5, 1) := by decide +kernel
theorem dX10_init_6 : decode cX10_init 6 = .ok (.newarray .int, 2) := by decide +kernel
theorem dX10_init_8 : decode cX10_init 8 = .ok (.putfield 11, 3) := by decide +kernel
theorem dX10_init_11 : decode cX10_init 11 = .ok (.aload_n 0, 1) := by decide +kernel
theorem dX10_init_12 : decode cX10_init 12 = .ok (.sipush 28000, 3) := by decide +kernel
theorem dX10_init_15 : decode cX10_init 15 = .ok (.newarray .int, 2) := by decide +kernel
theorem dX10_init_17 : decode cX10_init 17 = .ok (.putfield 17, 3) := by decide +kernel
theorem dX10_init_20 : decode cX10_init 20 = .ok (.aload_n 0, 1) := by decide +kernel
theorem dX10_init_21 : decode cX10_init 21 = .ok (.sipush 6000, 3) := by decide +kernel
theorem dX10_init_24 : decode cX10_init 24 = .ok (.newarray .int, 2) := by decide +kernel
theorem dX10_init_26 : decode cX10_init 26 = .ok (.putfield 20, 3) := by decide +kernel
theorem dX10_init_29 : decode cX10_init 29 = .ok (.aload_n 0, 1) := by decide +kernel
theorem dX10_init_30 : decode cX10_init 30 = .ok (.sipush 250, 3) := by decide +kernel
theorem dX10_init_33 : decode cX10_init 33 = .ok (.newarray .int, 2) := by decide +kernel
theorem dX10_init_35 : decode cX10_init 35 = .ok (.putfield 23, 3) := by decide +kernel
theorem dX10_init_38 : decode cX10_init 38 = .ok (.aload_n 0, 1) := by decide +kernel
theorem dX10_init_39 : decode cX10_init 39 = .ok (.sipush 250, 3) := by decide +kernel
theorem dX10_init_42 : decode cX10_init 42 = .ok (.newarray .int, 2) := by decide +kernel
theorem dX10_init_44 : decode cX10_init 44 = .ok (.putfield 26, 3) := by decide +kernel
theorem dX10_init_47 : decode cX10_init 47 = .ok (.aload_n 0, 1) := by decide +kernel
theorem dX10_init_48 : decode cX10_init 48 = .ok (.sipush 1024, 3) := by decide +kernel
theorem dX10_init_51 : decode cX10_init 51 = .ok (.newarray .int, 2) := by decide +kernel
theorem dX10_init_53 : decode cX10_init 53 = .ok (.putfield 29, 3) := by decide +kernel
theorem dX10_init_56 : decode cX10_init 56 = .ok (.aload_n 0, 1) := by decide +kernel
theorem dX10_init_57 : decode cX10_init 57 = .ok (.sipush 6000, 3) := by decide +kernel
theorem dX10_init_60 : decode cX10_init 60 = .ok (.newarray .int, 2) := by decide +kernel
theorem dX10_init_62 : decode cX10_init 62 = .ok (.putfield 32, 3) := by decide +kernel
theorem dX10_init_65 : decode cX10_init 65 = .ok (.aload_n 0, 1) := by decide +kernel
theorem dX10_init_66 : decode cX10_init 66 = .ok (.sipush 250, 3) := by decide +kernel
theorem dX10_init_69 : decode cX10_init 69 = .ok (.newarray .int, 2) := by decide +kernel
theorem dX10_init_71 : decode cX10_init 71 = .ok (.putfield 35, 3) := by decide +kernel
theorem dX10_init_74 : decode cX10_init 74 = .ok (.aload_n 0, 1) := by decide +kernel
theorem dX10_init_75 : decode cX10_init 75 = .ok (.sipush 250, 3) := by decide +kernel
theorem dX10_init_78 : decode cX10_init 78 = .ok (.newarray .int, 2) := by decide +kernel
theorem dX10_init_80 : decode cX10_init 80 = .ok (.putfield 38, 3) := by decide +kernel
theorem dX10_init_83 : decode cX10_init 83 = .ok (.aload_n 0, 1) := by decide +kernel
theorem dX10_init_84 : decode cX10_init 84 = .ok (.sipush 250, 3) := by decide +kernel
theorem dX10_init_87 : decode cX10_init 87 = .ok (.newarray .int, 2) := by decide +kernel
theorem dX10_init_89 : decode cX10_init 89 = .ok (.putfield 41, 3) := by decide +kernel
theorem dX10_init_92 : decode cX10_init 92 = .ok (.return_, 1) := by decide +kernel
set_option maxRecDepth 100000 in
set_option maxHeartbeats 4000000 in
theorem c_X10_init (l : Launch) (D : va_G) (aI aB : ClassId) (z h0 : Nat) : Met l yX10_init (Cond.code yX10_init cX10_init 1 none :: j_ws) { frames := 1, cells := 10, slots := 42279, locals := 20 } (n_Pc D aI aB z h0 5 17 (vp_V [.null, .null, .null, .null, .null, .null, .null, .null, .null, .null, .int 0, .int 0, .int 0, .int 0, .int 0, .int 0, .int 0]) [.ref h0]) (n_Q 10 (fun sz => [(h0, n_at D 5 17 (vp_V [.ref (sz + 0), .ref (sz + 1), .ref (sz + 2), .ref (sz + 3), .ref (sz + 4), .ref (sz + 5), .ref (sz + 6), .ref (sz + 7), .ref (sz + 8), .ref (sz + 9), .int 0, .int 0, .int 0, .int 0, .int 0, .int 0, .int 0])), (sz + 0, n_ar aI 5 (fun _ => 0)), (sz + 1, n_ar aI 28000 (fun _ => 0)), (sz + 2, n_ar aI 6000 (fun _ => 0)), (sz + 3, n_ar aI 250 (fun _ => 0)), (sz + 4, n_ar aI 250 (fun _ => 0)), (sz + 5, n_ar aI 1024 (fun _ => 0)), (sz + 6, n_ar aI 6000 (fun _ => 0)), (sz + 7, n_ar aI 250 (fun _ => 0)), (sz + 8, n_ar aI 250 (fun _ => 0)), (sz + 9, n_ar aI 250 (fun _ => 0))])) 10 42279 (fun q => z ≤ q) := by
  refine Met.ofW (cc := cX10_init) (maxL := 1) (ret := none) (by decide +kernel) rfl ?_
  intro p e s m args below meth c s₁ B hml hv
  obtain ⟨rfl, hK, hraw, hz, hN⟩ := hv
  have hts := atoms_spec (ws := Cond.code yX10_init cX10_init 1 none :: j_ws) B.pre
  have cx : j_Cx yX10_init cX10_init 1 none p s m _ meth c := ⟨B.exec, B.bytes, B.returns, hml, fun w hw => hts w (List.mem_cons_of_mem _ hw), findClass_of_methodNamed B.named, B.notSynchronized⟩
  have hin : meth.name = "<init>" := (name_of_methodNamed B.named B.method).1
  have hl := lv_entry ([.ref h0]) (n := 1) (Nat.le_of_ble_eq_true rfl)
  rw [lg_entry_eq]
  generalize (lg_sl ([.ref h0]) ++ List.replicate (1 - (lg_sl ([.ref h0])).length) Slot.unset).toArray = la at hl ⊢
  have hl : lv_has la 1 [(0, .ref h0)] := hl
  have hB := hb.one hraw
  have hlo : ∀ q ∈ ([] : List Loc), z ≤ q.base := fun q hq => by cases hq
  have hz9 : ∀ {k : Nat}, z ≤ s.heap.size + k := fun {k} => by
    obtain ⟨c9, hc9, -⟩ := hraw
    have := (Array.getElem?_eq_some_iff.mp hc9).1
    omega
  refine lv_aload_n cx.1 cx.2.1 dX10_init_0 rfl (lv_at hl 0 rfl) ?_
  refine W.objInit cx.1 cx.2.1 cx.2.2.2.2.2.1 (cx.2.2.2.2.1 _ (j_in 965 (by decide +kernel) (by decide +kernel))) (cx.2.2.2.2.1 _ w_oi) (cx.2.2.2.2.1 _ w_oc) rfl (by rw [hml]; exact hl.1) rfl dX10_init_1 (Nat.le_of_ble_eq_true rfl) (Nat.le_of_ble_eq_true rfl) ?_
  refine W.eq (g2 := F0 m 4 la []) rfl ?_
  refine lv_aload_n cx.1 cx.2.1 dX10_init_4 rfl (lv_at hl 0 rfl) ?_
  refine lv_iconst cx.1 cx.2.1 dX10_init_5 (v := 5) rfl ?_
  refine N_newa cx hK w_ai (v := 5) (k := 5) (q := 8) (by decide) (by decide) (by decide) dX10_init_6 (Nat.le_of_ble_eq_true rfl) (Nat.le_of_ble_eq_true rfl) hB rfl (fun H hB => ?_)
  have hB : hb s.heap H 1 [(h0, n_at D 5 17 (vp_V [.null, .null, .null, .null, .null, .null, .null, .null, .null, .null, .int 0, .int 0, .int 0, .int 0, .int 0, .int 0, .int 0])), (s.heap.size + 0, n_ar aI 5 (fun _ => 0))] := hB
  refine W.eq (g2 := F0 m 8 la [.ref (s.heap.size + 0), .ref h0]) rfl ?_
  refine W.widen (k := 1) (n := 5) (Nat.le_of_ble_eq_true rfl) (Nat.le_of_ble_eq_true rfl) ?_
  refine N_put cx hK (ci := 5) (N := 17) (V' := (vp_V [.ref (s.heap.size + 0), .null, .null, .null, .null, .null, .null, .null, .null, .null, .int 0, .int 0, .int 0, .int 0, .int 0, .int 0, .int 0])) (q := 11) 0 0 dX10_init_8 fRX10_11 (Or.inr ⟨ff_5_0, hin⟩) rfl rfl rfl hB rfl hz hlo (n_setV (Nat.le_of_ble_eq_true rfl) _) rfl (fun H locs hB hlo => ?_)
  have hB : hb s.heap H 1 [(h0, n_at D 5 17 (vp_V [.ref (s.heap.size + 0), .null, .null, .null, .null, .null, .null, .null, .null, .null, .int 0, .int 0, .int 0, .int 0, .int 0, .int 0, .int 0])), (s.heap.size + 0, n_ar aI 5 (fun _ => 0))] := hB
  refine lv_aload_n cx.1 cx.2.1 dX10_init_11 rfl (lv_at hl 0 rfl) ?_
  refine lv_sipush cx.1 cx.2.1 dX10_init_12 (v := 28000) rfl ?_
  refine N_newa cx hK w_ai (v := 28000) (k := 28000) (q := 17) (by decide) (by decide) (by decide) dX10_init_15 (Nat.le_of_ble_eq_true rfl) (Nat.le_of_ble_eq_true rfl) hB rfl (fun H hB => ?_)
  have hB : hb s.heap H 2 [(h0, n_at D 5 17 (vp_V [.ref (s.heap.size + 0), .null, .null, .null, .null, .null, .null, .null, .null, .null, .int 0, .int 0, .int 0, .int 0, .int 0, .int 0, .int 0])), (s.heap.size + 0, n_ar aI 5 (fun _ => 0)), (s.heap.size + 1, n_ar aI 28000 (fun _ => 0))] := hB
  refine W.eq (g2 := F0 m 17 la [.ref (s.heap.size + 1), .ref h0]) rfl ?_
  refine W.widen (k := 2) (n := 28005) (Nat.le_of_ble_eq_true rfl) (Nat.le_of_ble_eq_true rfl) ?_
  refine N_put cx hK (ci := 5) (N := 17) (V' := (vp_V [.ref (s.heap.size + 0), .ref (s.heap.size + 1), .null, .null, .null, .null, .null, .null, .null, .null, .int 0, .int 0, .int 0, .int 0, .int 0, .int 0, .int 0])) (q := 20) 1 0 dX10_init_17 fRX10_17 (Or.inr ⟨ff_5_1, hin⟩) rfl rfl rfl hB rfl hz hlo (n_setV (Nat.le_of_ble_eq_true rfl) _) rfl (fun H locs hB hlo => ?_)
  have hB : hb s.heap H 2 [(h0, n_at D 5 17 (vp_V [.ref (s.heap.size + 0), .ref (s.heap.size + 1), .null, .null, .null, .null, .null, .null, .null, .null, .int 0, .int 0, .int 0, .int 0, .int 0, .int 0, .int 0])), (s.heap.size + 0, n_ar aI 5 (fun _ => 0)), (s.heap.size + 1, n_ar aI 28000 (fun _ => 0))] := hB
  refine lv_aload_n cx.1 cx.2.1 dX10_init_20 rfl (lv_at hl 0 rfl) ?_
  refine lv_sipush cx.1 cx.2.1 dX10_init_21 (v := 6000) rfl ?_
  refine N_newa cx hK w_ai (v := 6000) (k := 6000) (q := 26) (by decide) (by decide) (by decide) dX10_init_24 (Nat.le_of_ble_eq_true rfl) (Nat.le_of_ble_eq_true rfl) hB rfl (fun H hB => ?_)
  have hB : hb s.heap H 3 [(h0, n_at D 5 17 (vp_V [.ref (s.heap.size + 0), .ref (s.heap.size + 1), .null, .null, .null, .null, .null, .null, .null, .null, .int 0, .int 0, .int 0, .int 0, .int 0, .int 0, .int 0])), (s.heap.size + 0, n_ar aI 5 (fun _ => 0)), (s.heap.size + 1, n_ar aI 28000 (fun _ => 0)), (s.heap.size + 2, n_ar aI 6000 (fun _ => 0))] := hB
  refine W.eq (g2 := F0 m 26 la [.ref (s.heap.size + 2), .ref h0]) rfl ?_
  refine W.widen (k := 3) (n := 34005) (Nat.le_of_ble_eq_true rfl) (Nat.le_of_ble_eq_true rfl) ?_
  refine N_put cx hK (ci := 5) (N := 17) (V' := (vp_V [.ref (s.heap.size + 0), .ref (s.heap.size + 1), .ref (s.heap.size + 2), .null, .null, .null, .null, .null, .null, .null, .int 0, .int 0, .int 0, .int 0, .int 0, .int 0, .int 0])) (q := 29) 2 0 dX10_init_26 fRX10_20 (Or.inr ⟨ff_5_2, hin⟩) rfl rfl rfl hB rfl hz hlo (n_setV (Nat.le_of_ble_eq_true rfl) _) rfl (fun H locs hB hlo => ?_)
  have hB : hb s.heap H 3 [(h0, n_at D 5 17 (vp_V [.ref (s.heap.size + 0), .ref (s.heap.size + 1), .ref (s.heap.size + 2), .null, .null, .null, .null, .null, .null, .null, .int 0, .int 0, .int 0, .int 0, .int 0, .int 0, .int 0])), (s.heap.size + 0, n_ar aI 5 (fun _ => 0)), (s.heap.size + 1, n_ar aI 28000 (fun _ => 0)), (s.heap.size + 2, n_ar aI 6000 (fun _ => 0))] := hB
  refine lv_aload_n cx.1 cx.2.1 dX10_init_29 rfl (lv_at hl 0 rfl) ?_
  refine lv_sipush cx.1 cx.2.1 dX10_init_30 (v := 250) rfl ?_
  refine N_newa cx hK w_ai (v := 250) (k := 250) (q := 35) (by decide) (by decide) (by decide) dX10_init_33 (Nat.le_of_ble_eq_true rfl) (Nat.le_of_ble_eq_true rfl) hB rfl (fun H hB => ?_)
  have hB : hb s.heap H 4 [(h0, n_at D 5 17 (vp_V [.ref (s.heap.size + 0), .ref (s.heap.size + 1), .ref (s.heap.size + 2), .null, .null, .null, .null, .null, .null, .null, .int 0, .int 0, .int 0, .int 0, .int 0, .int 0, .int 0])), (s.heap.size + 0, n_ar aI 5 (fun _ => 0)), (s.heap.size + 1, n_ar aI 28000 (fun _ => 0)), (s.heap.size + 2, n_ar aI 6000 (fun _ => 0)), (s.heap.size + 3, n_ar aI 250 (fun _ => 0))] := hB
  refine W.eq (g2 := F0 m 35 la [.ref (s.heap.size + 3), .ref h0]) rfl ?_
  refine W.widen (k := 4) (n := 34255) (Nat.le_of_ble_eq_true rfl) (Nat.le_of_ble_eq_true rfl) ?_
  refine N_put cx hK (ci := 5) (N := 17) (V' := (vp_V [.ref (s.heap.size + 0), .ref (s.heap.size + 1), .ref (s.heap.size + 2), .ref (s.heap.size + 3), .null, .null, .null, .null, .null, .null, .int 0, .int 0, .int 0, .int 0, .int 0, .int 0, .int 0])) (q := 38) 3 0 dX10_init_35 fRX10_23 (Or.inr ⟨ff_5_3, hin⟩) rfl rfl rfl hB rfl hz hlo (n_setV (Nat.le_of_ble_eq_true rfl) _) rfl (fun H locs hB hlo => ?_)
  have hB : hb s.heap H 4 [(h0, n_at D 5 17 (vp_V [.ref (s.heap.size + 0), .ref (s.heap.size + 1), .ref (s.heap.size + 2), .ref (s.heap.size + 3), .null, .null, .null, .null, .null, .null, .int 0, .int 0, .int 0, .int 0, .int 0, .int 0, .int 0])), (s.heap.size + 0, n_ar aI 5 (fun _ => 0)), (s.heap.size + 1, n_ar aI 28000 (fun _ => 0)), (s.heap.size + 2, n_ar aI 6000 (fun _ => 0)), (s.heap.size + 3, n_ar aI 250 (fun _ => 0))] := hB
  refine lv_aload_n cx.1 cx.2.1 dX10_init_38 rfl (lv_at hl 0 rfl) ?_
  refine lv_sipush cx.1 cx.2.1 dX10_init_39 (v := 250) rfl ?_
  refine N_newa cx hK w_ai (v := 250) (k := 250) (q := 44) (by decide) (by decide) (by decide) dX10_init_42 (Nat.le_of_ble_eq_true rfl) (Nat.le_of_ble_eq_true rfl) hB rfl (fun H hB => ?_)
  have hB : hb s.heap H 5 [(h0, n_at D 5 17 (vp_V [.ref (s.heap.size + 0), .ref (s.heap.size + 1), .ref (s.heap.size + 2), .ref (s.heap.size + 3), .null, .null, .null, .null, .null, .null, .int 0, .int 0, .int 0, .int 0, .int 0, .int 0, .int 0])), (s.heap.size + 0, n_ar aI 5 (fun _ => 0)), (s.heap.size + 1, n_ar aI 28000 (fun _ => 0)), (s.heap.size + 2, n_ar aI 6000 (fun _ => 0)), (s.heap.size + 3, n_ar aI 250 (fun _ => 0)), (s.heap.size + 4, n_ar aI 250 (fun _ => 0))] := hB
  refine W.eq (g2 := F0 m 44 la [.ref (s.heap.size + 4), .ref h0]) rfl ?_
  refine W.widen (k := 5) (n := 34505) (Nat.le_of_ble_eq_true rfl) (Nat.le_of_ble_eq_true rfl) ?_
  refine N_put cx hK (ci := 5) (N := 17) (V' := (vp_V [.ref (s.heap.size + 0), .ref (s.heap.size + 1), .ref (s.heap.size + 2), .ref (s.heap.size + 3), .ref (s.heap.size + 4), .null, .null, .null, .null, .null, .int 0, .int 0, .int 0, .int 0, .int 0, .int 0, .int 0])) (q := 47) 4 0 dX10_init_44 fRX10_26 (Or.inr ⟨ff_5_4, hin⟩) rfl rfl rfl hB rfl hz hlo (n_setV (Nat.le_of_ble_eq_true rfl) _) rfl (fun H locs hB hlo => ?_)
  have hB : hb s.heap H 5 [(h0, n_at D 5 17 (vp_V [.ref (s.heap.size + 0), .ref (s.heap.size + 1), .ref (s.heap.size + 2), .ref (s.heap.size + 3), .ref (s.heap.size + 4), .null, .null, .null, .null, .null, .int 0, .int 0, .int 0, .int 0, .int 0, .int 0, .int 0])), (s.heap.size + 0, n_ar aI 5 (fun _ => 0)), (s.heap.size + 1, n_ar aI 28000 (fun _ => 0)), (s.heap.size + 2, n_ar aI 6000 (fun _ => 0)), (s.heap.size + 3, n_ar aI 250 (fun _ => 0)), (s.heap.size + 4, n_ar aI 250 (fun _ => 0))] := hB
  refine lv_aload_n cx.1 cx.2.1 dX10_init_47 rfl (lv_at hl 0 rfl) ?_
  refine lv_sipush cx.1 cx.2.1 dX10_init_48 (v := 1024) rfl ?_
  refine N_newa cx hK w_ai (v := 1024) (k := 1024) (q := 53) (by decide) (by decide) (by decide) dX10_init_51 (Nat.le_of_ble_eq_true rfl) (Nat.le_of_ble_eq_true rfl) hB rfl (fun H hB => ?_)
  have hB : hb s.heap H 6 [(h0, n_at D 5 17 (vp_V [.ref (s.heap.size + 0), .ref (s.heap.size + 1), .ref (s.heap.size + 2), .ref (s.heap.size + 3), .ref (s.heap.size + 4), .null, .null, .null, .null, .null, .int 0, .int 0, .int 0, .int 0, .int 0, .int 0, .int 0])), (s.heap.size + 0, n_ar aI 5 (fun _ => 0)), (s.heap.size + 1, n_ar aI 28000 (fun _ => 0)), (s.heap.size + 2, n_ar aI 6000 (fun _ => 0)), (s.heap.size + 3, n_ar aI 250 (fun _ => 0)), (s.heap.size + 4, n_ar aI 250 (fun _ => 0)), (s.heap.size + 5, n_ar aI 1024 (fun _ => 0))] := hB
  refine W.eq (g2 := F0 m 53 la [.ref (s.heap.size + 5), .ref h0]) rfl ?_
  refine W.widen (k := 6) (n := 35529) (Nat.le_of_ble_eq_true rfl) (Nat.le_of_ble_eq_true rfl) ?_
  refine N_put cx hK (ci := 5) (N := 17) (V' := (vp_V [.ref (s.heap.size + 0), .ref (s.heap.size + 1), .ref (s.heap.size + 2), .ref (s.heap.size + 3), .ref (s.heap.size + 4), .ref (s.heap.size + 5), .null, .null, .null, .null, .int 0, .int 0, .int 0, .int 0, .int 0, .int 0, .int 0])) (q := 56) 5 0 dX10_init_53 fRX10_29 (Or.inr ⟨ff_5_5, hin⟩) rfl rfl rfl hB rfl hz hlo (n_setV (Nat.le_of_ble_eq_true rfl) _) rfl (fun H locs hB hlo => ?_)
  have hB : hb s.heap H 6 [(h0, n_at D 5 17 (vp_V [.ref (s.heap.size + 0), .ref (s.heap.size + 1), .ref (s.heap.size + 2), .ref (s.heap.size + 3), .ref (s.heap.size + 4), .ref (s.heap.size + 5), .null, .null, .null, .null, .int 0, .int 0, .int 0, .int 0, .int 0, .int 0, .int 0])), (s.heap.size + 0, n_ar aI 5 (fun _ => 0)), (s.heap.size + 1, n_ar aI 28000 (fun _ => 0)), (s.heap.size + 2, n_ar aI 6000 (fun _ => 0)), (s.heap.size + 3, n_ar aI 250 (fun _ => 0)), (s.heap.size + 4, n_ar aI 250 (fun _ => 0)), (s.heap.size + 5, n_ar aI 1024 (fun _ => 0))] := hB
  refine lv_aload_n cx.1 cx.2.1 dX10_init_56 rfl (lv_at hl 0 rfl) ?_
  refine lv_sipush cx.1 cx.2.1 dX10_init_57 (v := 6000) rfl ?_
  refine N_newa cx hK w_ai (v := 6000) (k := 6000) (q := 62) (by decide) (by decide) (by decide) dX10_init_60 (Nat.le_of_ble_eq_true rfl) (Nat.le_of_ble_eq_true rfl) hB rfl (fun H hB => ?_)
  have hB : hb s.heap H 7 [(h0, n_at D 5 17 (vp_V [.ref (s.heap.size + 0), .ref (s.heap.size + 1), .ref (s.heap.size + 2), .ref (s.heap.size + 3), .ref (s.heap.size + 4), .ref (s.heap.size + 5), .null, .null, .null, .null, .int 0, .int 0, .int 0, .int 0, .int 0, .int 0, .int 0])), (s.heap.size + 0, n_ar aI 5 (fun _ => 0)), (s.heap.size + 1, n_ar aI 28000 (fun _ => 0)), (s.heap.size + 2, n_ar aI 6000 (fun _ => 0)), (s.heap.size + 3, n_ar aI 250 (fun _ => 0)), (s.heap.size + 4, n_ar aI 250 (fun _ => 0)), (s.heap.size + 5, n_ar aI 1024 (fun _ => 0)), (s.heap.size + 6, n_ar aI 6000 (fun _ => 0))] := hB
  refine W.eq (g2 := F0 m 62 la [.ref (s.heap.size + 6), .ref h0]) rfl ?_
  refine W.widen (k := 7) (n := 41529) (Nat.le_of_ble_eq_true rfl) (Nat.le_of_ble_eq_true rfl) ?_
  refine N_put cx hK (ci := 5) (N := 17) (V' := (vp_V [.ref (s.heap.size + 0), .ref (s.heap.size + 1), .ref (s.heap.size + 2), .ref (s.heap.size + 3), .ref (s.heap.size + 4), .ref (s.heap.size + 5), .ref (s.heap.size + 6), .null, .null, .null, .int 0, .int 0, .int 0, .int 0, .int 0, .int 0, .int 0])) (q := 65) 6 0 dX10_init_62 fRX10_32 (Or.inr ⟨ff_5_6, hin⟩) rfl rfl rfl hB rfl hz hlo (n_setV (Nat.le_of_ble_eq_true rfl) _) rfl (fun H locs hB hlo => ?_)
  have hB : hb s.heap H 7 [(h0, n_at D 5 17 (vp_V [.ref (s.heap.size + 0), .ref (s.heap.size + 1), .ref (s.heap.size + 2), .ref (s.heap.size + 3), .ref (s.heap.size + 4), .ref (s.heap.size + 5), .ref (s.heap.size + 6), .null, .null, .null, .int 0, .int 0, .int 0, .int 0, .int 0, .int 0, .int 0])), (s.heap.size + 0, n_ar aI 5 (fun _ => 0)), (s.heap.size + 1, n_ar aI 28000 (fun _ => 0)), (s.heap.size + 2, n_ar aI 6000 (fun _ => 0)), (s.heap.size + 3, n_ar aI 250 (fun _ => 0)), (s.heap.size + 4, n_ar aI 250 (fun _ => 0)), (s.heap.size + 5, n_ar aI 1024 (fun _ => 0)), (s.heap.size + 6, n_ar aI 6000 (fun _ => 0))] := hB
  refine lv_aload_n cx.1 cx.2.1 dX10_init_65 rfl (lv_at hl 0 rfl) ?_
  refine lv_sipush cx.1 cx.2.1 dX10_init_66 (v := 250) rfl ?_
  refine N_newa cx hK w_ai (v := 250) (k := 250) (q := 71) (by decide) (by decide) (by decide) dX10_init_69 (Nat.le_of_ble_eq_true rfl) (Nat.le_of_ble_eq_true rfl) hB rfl (fun H hB => ?_)
  have hB : hb s.heap H 8 [(h0, n_at D 5 17 (vp_V [.ref (s.heap.size + 0), .ref (s.heap.size + 1), .ref (s.heap.size + 2), .ref (s.heap.size + 3), .ref (s.heap.size + 4), .ref (s.heap.size + 5), .ref (s.heap.size + 6), .null, .null, .null, .int 0, .int 0, .int 0, .int 0, .int 0, .int 0, .int 0])), (s.heap.size + 0, n_ar aI 5 (fun _ => 0)), (s.heap.size + 1, n_ar aI 28000 (fun _ => 0)), (s.heap.size + 2, n_ar aI 6000 (fun _ => 0)), (s.heap.size + 3, n_ar aI 250 (fun _ => 0)), (s.heap.size + 4, n_ar aI 250 (fun _ => 0)), (s.heap.size + 5, n_ar aI 1024 (fun _ => 0)), (s.heap.size + 6, n_ar aI 6000 (fun _ => 0)), (s.heap.size + 7, n_ar aI 250 (fun _ => 0))] := hB
  refine W.eq (g2 := F0 m 71 la [.ref (s.heap.size + 7), .ref h0]) rfl ?_
  refine W.widen (k := 8) (n := 41779) (Nat.le_of_ble_eq_true rfl) (Nat.le_of_ble_eq_true rfl) ?_
  refine N_put cx hK (ci := 5) (N := 17) (V' := (vp_V [.ref (s.heap.size + 0), .ref (s.heap.size + 1), .ref (s.heap.size + 2), .ref (s.heap.size + 3), .ref (s.heap.size + 4), .ref (s.heap.size + 5), .ref (s.heap.size + 6), .ref (s.heap.size + 7), .null, .null, .int 0, .int 0, .int 0, .int 0, .int 0, .int 0, .int 0])) (q := 74) 7 0 dX10_init_71 fRX10_35 (Or.inr ⟨ff_5_7, hin⟩) rfl rfl rfl hB rfl hz hlo (n_setV (Nat.le_of_ble_eq_true rfl) _) rfl (fun H locs hB hlo => ?_)
  have hB : hb s.heap H 8 [(h0, n_at D 5 17 (vp_V [.ref (s.heap.size + 0), .ref (s.heap.size + 1), .ref (s.heap.size + 2), .ref (s.heap.size + 3), .ref (s.heap.size + 4), .ref (s.heap.size + 5), .ref (s.heap.size + 6), .ref (s.heap.size + 7), .null, .null, .int 0, .int 0, .int 0, .int 0, .int 0, .int 0, .int 0])), (s.heap.size + 0, n_ar aI 5 (fun _ => 0)), (s.heap.size + 1, n_ar aI 28000 (fun _ => 0)), (s.heap.size + 2, n_ar aI 6000 (fun _ => 0)), (s.heap.size + 3, n_ar aI 250 (fun _ => 0)), (s.heap.size + 4, n_ar aI 250 (fun _ => 0)), (s.heap.size + 5, n_ar aI 1024 (fun _ => 0)), (s.heap.size + 6, n_ar aI 6000 (fun _ => 0)), (s.heap.size + 7, n_ar aI 250 (fun _ => 0))] := hB
  refine lv_aload_n cx.1 cx.2.1 dX10_init_74 rfl (lv_at hl 0 rfl) ?_
  refine lv_sipush cx.1 cx.2.1 dX10_init_75 (v := 250) rfl ?_
  refine N_newa cx hK w_ai (v := 250) (k := 250) (q := 80) (by decide) (by decide) (by decide) dX10_init_78 (Nat.le_of_ble_eq_true rfl) (Nat.le_of_ble_eq_true rfl) hB rfl (fun H hB => ?_)
  have hB : hb s.heap H 9 [(h0, n_at D 5 17 (vp_V [.ref (s.heap.size + 0), .ref (s.heap.size + 1), .ref (s.heap.size + 2), .ref (s.heap.size + 3), .ref (s.heap.size + 4), .ref (s.heap.size + 5), .ref (s.heap.size + 6), .ref (s.heap.size + 7), .null, .null, .int 0, .int 0, .int 0, .int 0, .int 0, .int 0, .int 0])), (s.heap.size + 0, n_ar aI 5 (fun _ => 0)), (s.heap.size + 1, n_ar aI 28000 (fun _ => 0)), (s.heap.size + 2, n_ar aI 6000 (fun _ => 0)), (s.heap.size + 3, n_ar aI 250 (fun _ => 0)), (s.heap.size + 4, n_ar aI 250 (fun _ => 0)), (s.heap.size + 5, n_ar aI 1024 (fun _ => 0)), (s.heap.size + 6, n_ar aI 6000 (fun _ => 0)), (s.heap.size + 7, n_ar aI 250 (fun _ => 0)), (s.heap.size + 8, n_ar aI 250 (fun _ => 0))] := hB
  refine W.eq (g2 := F0 m 80 la [.ref (s.heap.size + 8), .ref h0]) rfl ?_
  refine W.widen (k := 9) (n := 42029) (Nat.le_of_ble_eq_true rfl) (Nat.le_of_ble_eq_true rfl) ?_
  refine N_put cx hK (ci := 5) (N := 17) (V' := (vp_V [.ref (s.heap.size + 0), .ref (s.heap.size + 1), .ref (s.heap.size + 2), .ref (s.heap.size + 3), .ref (s.heap.size + 4), .ref (s.heap.size + 5), .ref (s.heap.size + 6), .ref (s.heap.size + 7), .ref (s.heap.size + 8), .null, .int 0, .int 0, .int 0, .int 0, .int 0, .int 0, .int 0])) (q := 83) 8 0 dX10_init_80 fRX10_38 (Or.inr ⟨ff_5_8, hin⟩) rfl rfl rfl hB rfl hz hlo (n_setV (Nat.le_of_ble_eq_true rfl) _) rfl (fun H locs hB hlo => ?_)
  have hB : hb s.heap H 9 [(h0, n_at D 5 17 (vp_V [.ref (s.heap.size + 0), .ref (s.heap.size + 1), .ref (s.heap.size + 2), .ref (s.heap.size + 3), .ref (s.heap.size + 4), .ref (s.heap.size + 5), .ref (s.heap.size + 6), .ref (s.heap.size + 7), .ref (s.heap.size + 8), .null, .int 0, .int 0, .int 0, .int 0, .int 0, .int 0, .int 0])), (s.heap.size + 0, n_ar aI 5 (fun _ => 0)), (s.heap.size + 1, n_ar aI 28000 (fun _ => 0)), (s.heap.size + 2, n_ar aI 6000 (fun _ => 0)), (s.heap.size + 3, n_ar aI 250 (fun _ => 0)), (s.heap.size + 4, n_ar aI 250 (fun _ => 0)), (s.heap.size + 5, n_ar aI 1024 (fun _ => 0)), (s.heap.size + 6, n_ar aI 6000 (fun _ => 0)), (s.heap.size + 7, n_ar aI 250 (fun _ => 0)), (s.heap.size + 8, n_ar aI 250 (fun _ => 0))] := hB
  refine lv_aload_n cx.1 cx.2.1 dX10_init_83 rfl (lv_at hl 0 rfl) ?_
  refine lv_sipush cx.1 cx.2.1 dX10_init_84 (v := 250) rfl ?_
  refine N_newa cx hK w_ai (v := 250) (k := 250) (q := 89) (by decide) (by decide) (by decide) dX10_init_87 (Nat.le_of_ble_eq_true rfl) (Nat.le_of_ble_eq_true rfl) hB rfl (fun H hB => ?_)
  have hB : hb s.heap H 10 [(h0, n_at D 5 17 (vp_V [.ref (s.heap.size + 0), .ref (s.heap.size + 1), .ref (s.heap.size + 2), .ref (s.heap.size + 3), .ref (s.heap.size + 4), .ref (s.heap.size + 5), .ref (s.heap.size + 6), .ref (s.heap.size + 7), .ref (s.heap.size + 8), .null, .int 0, .int 0, .int 0, .int 0, .int 0, .int 0, .int 0])), (s.heap.size + 0, n_ar aI 5 (fun _ => 0)), (s.heap.size + 1, n_ar aI 28000 (fun _ => 0)), (s.heap.size + 2, n_ar aI 6000 (fun _ => 0)), (s.heap.size + 3, n_ar aI 250 (fun _ => 0)), (s.heap.size + 4, n_ar aI 250 (fun _ => 0)), (s.heap.size + 5, n_ar aI 1024 (fun _ => 0)), (s.heap.size + 6, n_ar aI 6000 (fun _ => 0)), (s.heap.size + 7, n_ar aI 250 (fun _ => 0)), (s.heap.size + 8, n_ar aI 250 (fun _ => 0)), (s.heap.size + 9, n_ar aI 250 (fun _ => 0))] := hB
  refine W.eq (g2 := F0 m 89 la [.ref (s.heap.size + 9), .ref h0]) rfl ?_
  refine W.widen (k := 10) (n := 42279) (Nat.le_of_ble_eq_true rfl) (Nat.le_of_ble_eq_true rfl) ?_
  refine N_put cx hK (ci := 5) (N := 17) (V' := (vp_V [.ref (s.heap.size + 0), .ref (s.heap.size + 1), .ref (s.heap.size + 2), .ref (s.heap.size + 3), .ref (s.heap.size + 4), .ref (s.heap.size + 5), .ref (s.heap.size + 6), .ref (s.heap.size + 7), .ref (s.heap.size + 8), .ref (s.heap.size + 9), .int 0, .int 0, .int 0, .int 0, .int 0, .int 0, .int 0])) (q := 92) 9 0 dX10_init_89 fRX10_41 (Or.inr ⟨ff_5_9, hin⟩) rfl rfl rfl hB rfl hz hlo (n_setV (Nat.le_of_ble_eq_true rfl) _) rfl (fun H locs hB hlo => ?_)
  have hB : hb s.heap H 10 [(h0, n_at D 5 17 (vp_V [.ref (s.heap.size + 0), .ref (s.heap.size + 1), .ref (s.heap.size + 2), .ref (s.heap.size + 3), .ref (s.heap.size + 4), .ref (s.heap.size + 5), .ref (s.heap.size + 6), .ref (s.heap.size + 7), .ref (s.heap.size + 8), .ref (s.heap.size + 9), .int 0, .int 0, .int 0, .int 0, .int 0, .int 0, .int 0])), (s.heap.size + 0, n_ar aI 5 (fun _ => 0)), (s.heap.size + 1, n_ar aI 28000 (fun _ => 0)), (s.heap.size + 2, n_ar aI 6000 (fun _ => 0)), (s.heap.size + 3, n_ar aI 250 (fun _ => 0)), (s.heap.size + 4, n_ar aI 250 (fun _ => 0)), (s.heap.size + 5, n_ar aI 1024 (fun _ => 0)), (s.heap.size + 6, n_ar aI 6000 (fun _ => 0)), (s.heap.size + 7, n_ar aI 250 (fun _ => 0)), (s.heap.size + 8, n_ar aI 250 (fun _ => 0)), (s.heap.size + 9, n_ar aI 250 (fun _ => 0))] := hB
  have hlocks := cx.2.2.2.2.2.2
  exact W.vret cx.1 cx.2.1 cx.2.2.1 (fun t ht hW => ⟨rfl, by rw [ht]; exact hB⟩) hlo dX10_init_92
/-- Arrays.fill -/
def n_fQ (aI : ClassId) (a N : Nat) (v : Int32) : Array Value → State → Outcome → State → Prop := fun _ st o t => o = .returned none ∧ t.heap.size = st.heap.size ∧ t.heap[a]? = some (arrV aI N (fun _ => .int v)) ∧ ∀ q, q ≠ a → t.heap[q]? = st.heap[q]?
set_option maxHeartbeats 1000000 in
theorem n_fill_loop {p : Program} {l : Launch} {e : Env} {R : Room} {s : State} {m : MethodId} {args : Array Value} {below : List Frame} {meth : Method} {c : Code} {cells slots : Nat} {aI : ClassId} {a N z : Nat} {v : Int32} (cx : j_Cx yJ7_fill_53178 cJ7_fill_53178 4 none p s m args meth c) (hA : ArrOfT s aI .int) (hN : N < 2 ^ 31) (hz : z ≤ a) :
    ∀ (r i : Nat) (H : Heap) (locs : List Loc) (la : Array Slot) (f : Nat → Int32), i + r = N → H[a]? = some (arrV aI N (fun j => .int (if j < i then v else f j))) → H.size = s.heap.size → (∀ q, q ≠ a → H[q]? = s.heap[q]?) → (∀ q ∈ locs, z ≤ q.base) → lv_has la 4 [(2, .int (nI i)), (3, .int (nI N)), (0, .ref a), (1, .int v)] →
      W p l e R s m args below meth c H locs cells slots (MQ below (n_fQ aI a N v) args s cells slots (fun q => z ≤ q)) (F0 m 5 la []) := by
  intro r
  induction r with
  | zero =>
    intro i H locs la f hi hH hs hk hlo hl
    have hiN : i = N := by omega
    subst hiN
    refine lv_iload_n cx.1 cx.2.1 dJ7_fill_53178_5 rfl (lv_at hl 0 rfl) ?_
    refine lv_iload_n cx.1 cx.2.1 dJ7_fill_53178_6 rfl (lv_at hl 1 rfl) ?_
    refine lv_icmp_ge cx.1 cx.2.1 dJ7_fill_53178_7 (tgt := 20) rfl (fun _ => ?_) (fun hc => absurd (nI_le (Nat.le_refl _) hN) hc)
    have hlocks := cx.2.2.2.2.2.2
    refine W.vret cx.1 cx.2.1 cx.2.2.1 (fun t ht hW => ⟨rfl, by rw [ht]; exact hs, ?_, fun q hq => by rw [ht]; exact hk q hq⟩) hlo dJ7_fill_53178_20
    rw [ht, hH]
    congr 1
    unfold arrV
    congr 1
    apply Array.ext
    · simp
    · intro j h1 h2
      simp at h1
      simp [h1]
  | succ r ih =>
    intro i H locs la f hi hH hs hk hlo hl
    refine lv_iload_n cx.1 cx.2.1 dJ7_fill_53178_5 rfl (lv_at hl 0 rfl) ?_
    refine lv_iload_n cx.1 cx.2.1 dJ7_fill_53178_6 rfl (lv_at hl 1 rfl) ?_
    refine lv_icmp_ge cx.1 cx.2.1 dJ7_fill_53178_7 (tgt := 20) rfl (fun hc => absurd hc (nI_ge (by omega) hN)) (fun _ => ?_)
    refine lv_aload_n cx.1 cx.2.1 dJ7_fill_53178_10 rfl (lv_at hl 2 rfl) ?_
    refine lv_iload_n cx.1 cx.2.1 dJ7_fill_53178_11 rfl (lv_at hl 0 rfl) ?_
    refine lv_iload_n cx.1 cx.2.1 dJ7_fill_53178_12 rfl (lv_at hl 3 rfl) ?_
    refine W.iast cx.1 cx.2.1 hH (hA N _) (fun q => by cases q) (by rw [arrV_size]; exact nI_in (by omega) hN) rfl rfl dJ7_fill_53178_13 fun H1 e1 z1 oq => ?_
    refine lv_iinc cx.1 cx.2.1 (k := 0) (v := nI (i + 1)) dJ7_fill_53178_14 hl rfl (by rw [← nI_1]; rfl) (by decide) (lv' := [(2, .int (nI (i + 1))), (3, .int (nI N)), (0, .ref a), (1, .int v)]) rfl (fun la hl => ?_)
    refine lv_goto cx.1 cx.2.1 dJ7_fill_53178_17 (tgt := 5) rfl ?_
    refine ih (i + 1) H1 _ la f (by omega) ?_ (by rw [z1]; exact hs) (fun q hq => by rw [oq q hq]; exact hk q hq) (fun q hq => ?_) hl
    · rw [e1, arrV_store, nI_clamp (by omega)]
      congr 2
      funext j
      by_cases hj : j = i
      · subst hj; simp [updV]
      · simp only [updV, if_neg hj]
        by_cases h2 : j < i
        · simp [h2, Nat.lt_succ_of_lt h2]
        · have : ¬ j < i + 1 := by omega
          simp [h2, this]
    · rcases List.mem_append.mp hq with h9 | h9
      · exact hlo q h9
      · rw [List.mem_singleton.mp h9]; exact hz
theorem c_fill (l : Launch) (D : va_G) (aI aB : ClassId) (z a N : Nat) (f : Nat → Int32) (v : Int32) (hN : N < 2 ^ 31) : Met l yJ7_fill_53178 (Cond.code yJ7_fill_53178 cJ7_fill_53178 4 none :: j_ws) { frames := 0, cells := 0, slots := 0, locals := 0 } (va_Pc [.ref a, .int v] (fun U => n_K D aI aB U ∧ U.heap[a]? = some (arrV aI N (fun j => .int (f j))) ∧ z ≤ a)) (n_fQ aI a N v) 0 0 (fun q => z ≤ q) := by
  refine Met.ofW (cc := cJ7_fill_53178) (maxL := 4) (ret := none) (by decide +kernel) rfl ?_
  intro p e s m args below meth c s₁ B hml hv
  obtain ⟨rfl, hK, hH, hz⟩ := hv
  have hts := atoms_spec (ws := Cond.code yJ7_fill_53178 cJ7_fill_53178 4 none :: j_ws) B.pre
  have cx : j_Cx yJ7_fill_53178 cJ7_fill_53178 4 none p s m _ meth c := ⟨B.exec, B.bytes, B.returns, hml, fun w hw => hts w (List.mem_cons_of_mem _ hw), findClass_of_methodNamed B.named, B.notSynchronized⟩
  have hl := lv_entry ([.ref a, .int v]) (n := 4) (Nat.le_of_ble_eq_true rfl)
  rw [lg_entry_eq]
  generalize (lg_sl ([.ref a, .int v]) ++ List.replicate (4 - (lg_sl ([.ref a, .int v])).length) Slot.unset).toArray = la at hl ⊢
  have hl : lv_has la 4 [(0, .ref a), (1, .int v)] := hl
  refine lv_iconst cx.1 cx.2.1 dJ7_fill_53178_0 (v := 0) rfl ?_
  refine lv_istore_n cx.1 cx.2.1 dJ7_fill_53178_1 rfl hl (by decide) (lv' := [(2, .int 0), (0, .ref a), (1, .int v)]) rfl (fun la hl => ?_)
  refine lv_aload_n cx.1 cx.2.1 dJ7_fill_53178_2 rfl (lv_at hl 1 rfl) ?_
  refine W.alen (n := nI N) cx.1 cx.2.1 hH ((hK.2 0 _ rfl).1 N _) (by rw [arrV_size]; rfl) rfl rfl dJ7_fill_53178_3 ?_
  refine lv_istore_n cx.1 cx.2.1 dJ7_fill_53178_4 rfl hl (by decide) (lv' := [(3, .int (nI N)), (2, .int 0), (0, .ref a), (1, .int v)]) rfl (fun la hl => ?_)
  exact n_fill_loop cx (hK.2 0 _ rfl).1 hN hz N 0 s.heap [] la f (by omega) (by simpa using hH) rfl (fun _ _ => rfl) (fun q hq => by cases hq) (lv_sub hl [1, 0, 2, 3] rfl)
section NF
variable {p : Program} {l : Launch} {e : Env} {R : Room} {s : State} {m : MethodId} {args : Array Value} {below : List Frame} {meth : Method} {c : Code} {H H0 : Heap} {locs : List Loc} {cells slots : Nat} {Q : State → Prop}
variable {y : MethodName} {cc : ByteArray} {nL : Nat} {ret : Option FieldType} {pc n z : Nat} {la : Array Slot} {rest : List Value} {D : va_G} {aI aB : ClassId} {P : List (Nat × (Cell → Prop))}
theorem N_fill (cx : j_Cx y cc nL ret p s m args meth c) (hK : n_K D aI aB s) {a N ix q : Nat} {f : Nat → Int32} {v : Int32} (kp : Nat) (hlk : Cond.methodLink y.cls ix yJ7_fill_53178 ∈ j_ws) (hst : Cond.static yJ7_fill_53178 ∈ j_ws) (d : decode cc pc = .ok (.invokestatic ix, 3)) (hla : la.size = nL) (hrest : (rest.map fun v => v.category).sum ≤ 8) (hfr : 0 + 1 ≤ R.frames ∧ 8 + (4 + 11) + 0 ≤ R.locals) (hroom : cells + 0 ≤ R.cells ∧ slots + 0 ≤ R.slots) (hB : hb H0 H n P) (hk : P[kp]? = some (a, n_ar aI N f)) (hz : z ≤ a) (hlo : ∀ q ∈ locs, z ≤ q.base) (hq : pc + 3 = q)
    (kk : ∀ H1 locs1, hb H0 H1 n (P.set kp (a, n_ar aI N (fun _ => v))) → (∀ q ∈ locs1, z ≤ q.base) → W p l e R s m args below meth c H1 locs1 cells slots Q (F0 m q la rest)) (hN : N < 2 ^ 31 := by decide) : W p l e R s m args below meth c H locs cells slots Q (F0 m pc la (.int v :: .ref a :: rest)) := by
  subst hq
  have hFix : CallFix p m c cc nL s args j_ws y.cls := ⟨cx.1, cx.2.1, cx.2.2.2.1, cx.2.2.2.2.2.1, cx.2.2.2.2.1⟩
  obtain ⟨cell, q1, q2⟩ := hB.2.2.1 _ (List.mem_of_getElem? hk)
  have q2 : cell = arrV aI N (fun j => .int (f j)) := q2
  subst q2
  have hPre : PreS s H (va_Pc [.ref a, .int v] (fun U => n_K D aI aB U ∧ U.heap[a]? = some (arrV aI N (fun j => .int (f j))) ∧ z ≤ a)) [.ref a, .int v] := ⟨fun a9 U g mk q => by
    obtain ⟨q0, q1, q2⟩ := q
    exact ⟨q0, va_K.moved (u := U) (U := U.calling g mk a9) (Vm.Alike.refl U.vm) q1, q2⟩, fun U hU hW => ⟨rfl, va_K.moved hW.alike hK, by rw [hU]; exact q1, hz⟩⟩
  have hW9 : 2 * (F0 m pc la (.int v :: .ref a :: rest)).monitorRoom + (rest.map fun v => v.category).sum ≤ 8 := by
    show 2 * 0 + _ ≤ 8
    omega
  have hrun := va_runS (l := l) (e := e) (below := below) (meth := meth) (locs := locs) (cells := cells) (slots := slots) (R := R) (index := ix) (As := [.ref a, .int v]) (rest := rest) (g := F0 m pc la (.int v :: .ref a :: rest)) hFix (c_fill l D aI aB z a N f v hN) ⟨callB_of 2 cx.2.2.2.2.1 (j_ws_good cb_J7_fill_53178.2.1) rfl rfl rfl (cx.2.2.2.2.1 _ cb_J7_fill_53178.2.2.1) (cx.2.2.2.2.1 _ hlk) cb_J7_fill_53178.2.2.2 hfr, cx.2.2.2.2.1 _ hst⟩ hPre rfl rfl hla rfl hW9 d hroom
  intro T hT X
  obtain ⟨v9, st₀, t, T', L, h0, X', hL, e1, e2, ⟨ho, f1, f2, f3⟩, st⟩ := hrun T hT X
  cases ho
  rw [h0] at f1 f3
  obtain ⟨t2, a1, b1⟩ := kk t.heap (locs ++ L) (hB.set hk f2 f1 f3 rfl) (fun q hq => by
    rcases List.mem_append.mp hq with h9 | h9
    · exact hlo q h9
    · exact hL q h9) T' e1 X'
  exact ⟨t2, st t2 a1, b1⟩
end NF

theorem ff_0_1 : j_FF RX1 0 1 (.array .int) := ⟨RX1, TX1, 15, tyX1, rfl, tyX1_ok, nmX1, rfl, rfl, by decide +kernel⟩
theorem ff_0_2 : j_FF RX1 0 2 (.array .int) := ⟨RX1, TX1, 15, tyX1, rfl, tyX1_ok, nmX1, rfl, rfl, by decide +kernel⟩
theorem ff_0_3 : j_FF RX1 0 3 (.array .int) := ⟨RX1, TX1, 15, tyX1, rfl, tyX1_ok, nmX1, rfl, rfl, by decide +kernel⟩
theorem ff_0_4 : j_FF RX1 0 4 (.array .int) := ⟨RX1, TX1, 15, tyX1, rfl, tyX1_ok, nmX1, rfl, rfl, by decide +kernel⟩
theorem ff_0_5 : j_FF RX1 0 5 (.array .int) := ⟨RX1, TX1, 15, tyX1, rfl, tyX1_ok, nmX1, rfl, rfl, by decide +kernel⟩
theorem ff_0_6 : j_FF RX1 0 6 (.array .int) := ⟨RX1, TX1, 15, tyX1, rfl, tyX1_ok, nmX1, rfl, rfl, by decide +kernel⟩
theorem ff_0_7 : j_FF RX1 0 7 (.array .int) := ⟨RX1, TX1, 15, tyX1, rfl, tyX1_ok, nmX1, rfl, rfl, by decide +kernel⟩
theorem ff_0_0 : j_FF RX1 0 0 (.object "CountedTokens$Log") := ⟨RX1, TX1, 15, tyX1, rfl, tyX1_ok, nmX1, rfl, rfl, by decide +kernel⟩
theorem n_up0 : upd (fun _ => 0) (0 : Int32).toNatClampNeg ((8 : Int32) ||| 16 ||| 32) = (fun j => if j < 1 then 56 else 0) := by
  funext j
  have e1 : (0 : Int32).toNatClampNeg = 0 := by decide
  have e2 : ((8 : Int32) ||| 16 ||| 32) = 56 := by decide
  rw [e1, e2]
  unfold upd
  by_cases h : j = 0
  · subst h; simp
  · rw [if_neg h]
    rw [if_neg (by omega)]
theorem n_up1 : upd (fun j => if j < 1 then 56 else 0) (1 : Int32).toNatClampNeg ((8 : Int32) ||| 16 ||| 32) = (fun j => if j < 2 then 56 else 0) := by
  funext j
  have e1 : (1 : Int32).toNatClampNeg = 1 := by decide
  have e2 : ((8 : Int32) ||| 16 ||| 32) = 56 := by decide
  rw [e1, e2]
  unfold upd
  by_cases h : j = 1
  · subst h; simp
  · rw [if_neg h]
    have e3 : (j < 1) ↔ (j < 2) := by omega
    simp only [e3]
theorem n_up2 : upd (fun j => if j < 2 then 56 else 0) (2 : Int32).toNatClampNeg ((8 : Int32) ||| 16 ||| 32) = (fun j => if j < 3 then 56 else 0) := by
  funext j
  have e1 : (2 : Int32).toNatClampNeg = 2 := by decide
  have e2 : ((8 : Int32) ||| 16 ||| 32) = 56 := by decide
  rw [e1, e2]
  unfold upd
  by_cases h : j = 2
  · subst h; simp
  · rw [if_neg h]
    have e3 : (j < 2) ↔ (j < 3) := by omega
    simp only [e3]
theorem n_up3 : upd (fun j => if j < 3 then 56 else 0) (3 : Int32).toNatClampNeg ((8 : Int32) ||| 16 ||| 32) = (fun j => if j < 4 then 56 else 0) := by
  funext j
  have e1 : (3 : Int32).toNatClampNeg = 3 := by decide
  have e2 : ((8 : Int32) ||| 16 ||| 32) = 56 := by decide
  rw [e1, e2]
  unfold upd
  by_cases h : j = 3
  · subst h; simp
  · rw [if_neg h]
    have e3 : (j < 3) ↔ (j < 4) := by omega
    simp only [e3]
theorem n_up4 : upd (fun j => if j < 4 then 56 else 0) (4 : Int32).toNatClampNeg ((8 : Int32) ||| 16 ||| 32) = (fun j => if j < 5 then 56 else 0) := by
  funext j
  have e1 : (4 : Int32).toNatClampNeg = 4 := by decide
  have e2 : ((8 : Int32) ||| 16 ||| 32) = 56 := by decide
  rw [e1, e2]
  unfold upd
  by_cases h : j = 4
  · subst h; simp
  · rw [if_neg h]
    have e3 : (j < 4) ↔ (j < 5) := by omega
    simp only [e3]
theorem n_up5 : upd (fun j => if j < 5 then 56 else 0) (5 : Int32).toNatClampNeg ((8 : Int32) ||| 16 ||| 32) = (fun j => if j < 6 then 56 else 0) := by
  funext j
  have e1 : (5 : Int32).toNatClampNeg = 5 := by decide
  have e2 : ((8 : Int32) ||| 16 ||| 32) = 56 := by decide
  rw [e1, e2]
  unfold upd
  by_cases h : j = 5
  · subst h; simp
  · rw [if_neg h]
    have e3 : (j < 5) ↔ (j < 6) := by omega
    simp only [e3]
theorem n_up6 : upd (fun j => if j < 6 then 56 else 0) (6 : Int32).toNatClampNeg ((8 : Int32) ||| 16 ||| 32) = (fun j => if j < 7 then 56 else 0) := by
  funext j
  have e1 : (6 : Int32).toNatClampNeg = 6 := by decide
  have e2 : ((8 : Int32) ||| 16 ||| 32) = 56 := by decide
  rw [e1, e2]
  unfold upd
  by_cases h : j = 6
  · subst h; simp
  · rw [if_neg h]
    have e3 : (j < 6) ↔ (j < 7) := by omega
    simp only [e3]
theorem n_up7 : upd (fun j => if j < 7 then 56 else 0) (7 : Int32).toNatClampNeg ((8 : Int32) ||| 16 ||| 32) = (fun j => if j < 8 then 56 else 0) := by
  funext j
  have e1 : (7 : Int32).toNatClampNeg = 7 := by decide
  have e2 : ((8 : Int32) ||| 16 ||| 32) = 56 := by decide
  rw [e1, e2]
  unfold upd
  by_cases h : j = 7
  · subst h; simp
  · rw [if_neg h]
    have e3 : (j < 7) ↔ (j < 8) := by omega
    simp only [e3]
theorem dX1_init_0 : decode cX1_init 0 = .ok (.aload_n 0, 1) := by decide +kernel
theorem dX1_init_1 : decode cX1_init 1 = .ok (.invokespecial 3, 3) := by decide +kernel
theorem dX1_init_4 : decode cX1_init 4 = .ok (.aload_n 0, 1) := by decide +kernel
theorem dX1_init_5 : decode cX1_init 5 = .ok (.bipush 112, 2) := by decide +kernel
theorem dX1_init_7 : decode cX1_init 7 = .ok (.newarray .int, 2) := by decide +kernel
theorem dX1_init_9 : decode cX1_init 9 = .ok (.putfield 11, 3) := by decide +kernel
theorem dX1_init_12 : decode cX1_init 12 = .ok (.aload_n 0, 1) := by decide +kernel
theorem dX1_init_13 : decode cX1_init 13 = .ok (.sipush 256, 3) := by decide +kernel
theorem dX1_init_16 : decode cX1_init 16 = .ok (.newarray .int, 2) := by decide +kernel
theorem dX1_init_18 : decode cX1_init 18 = .ok (.putfield 15, 3) := by decide +kernel
theorem dX1_init_21 : decode cX1_init 21 = .ok (.aload_n 0, 1) := by decide +kernel
theorem dX1_init_22 : decode cX1_init 22 = .ok (.bipush 48, 2) := by decide +kernel
theorem dX1_init_24 : decode cX1_init 24 = .ok (.newarray .int, 2) := by decide +kernel
theorem dX1_init_26 : decode cX1_init 26 = .ok (.putfield 18, 3) := by decide +kernel
theorem dX1_init_29 : decode cX1_init 29 = .ok (.aload_n 0, 1) := by decide +kernel
theorem dX1_init_30 : decode cX1_init 30 = .ok (.bipush 48, 2) := by decide +kernel
theorem dX1_init_32 : decode cX1_init 32 = .ok (.newarray .int, 2) := by decide +kernel
theorem dX1_init_34 : decode cX1_init 34 = .ok (.putfield 21, 3) := by decide +kernel
theorem dX1_init_37 : decode cX1_init 37 = .ok (.aload_n 0, 1) := by decide +kernel
theorem dX1_init_38 : decode cX1_init 38 = .ok (.bipush 6, 2) := by decide +kernel
theorem dX1_init_40 : decode cX1_init 40 = .ok (.newarray .int, 2) := by decide +kernel
theorem dX1_init_42 : decode cX1_init 42 = .ok (.putfield 24, 3) := by decide +kernel
theorem dX1_init_45 : decode cX1_init 45 = .ok (.aload_n 0, 1) := by decide +kernel
theorem dX1_init_46 : decode cX1_init 46 = .ok (.bipush 6, 2) := by decide +kernel
theorem dX1_init_48 : decode cX1_init 48 = .ok (.newarray .int, 2) := by decide +kernel
theorem dX1_init_50 : decode cX1_init 50 = .ok (.putfield 27, 3) := by decide +kernel
theorem dX1_init_53 : decode cX1_init 53 = .ok (.aload_n 0, 1) := by decide +kernel
theorem dX1_init_54 : decode cX1_init 54 = .ok (.bipush 6, 2) := by decide +kernel
theorem dX1_init_56 : decode cX1_init 56 = .ok (.newarray .int, 2) := by decide +kernel
theorem dX1_init_58 : decode cX1_init 58 = .ok (.putfield 30, 3) := by decide +kernel
theorem dX1_init_61 : decode cX1_init 61 = .ok (.aload_n 0, 1) := by decide +kernel
theorem dX1_init_62 : decode cX1_init 62 = .ok (.iconst 3, 1) := by decide +kernel
theorem dX1_init_63 : decode cX1_init 63 = .ok (.putfield 33, 3) := by decide +kernel
theorem dX1_init_66 : decode cX1_init 66 = .ok (.aload_n 0, 1) := by decide +kernel
theorem dX1_init_67 : decode cX1_init 67 = .ok (.bipush 8, 2) := by decide +kernel
theorem dX1_init_69 : decode cX1_init 69 = .ok (.putfield 37, 3) := by decide +kernel
theorem dX1_init_72 : decode cX1_init 72 = .ok (.aload_n 0, 1) := by decide +kernel
theorem dX1_init_73 : decode cX1_init 73 = .ok (.iconst 4, 1) := by decide +kernel
theorem dX1_init_74 : decode cX1_init 74 = .ok (.putfield 40, 3) := by decide +kernel
theorem dX1_init_77 : decode cX1_init 77 = .ok (.aload_n 0, 1) := by decide +kernel
theorem dX1_init_78 : decode cX1_init 78 = .ok (.bipush 6, 2) := by decide +kernel
theorem dX1_init_80 : decode cX1_init 80 = .ok (.putfield 43, 3) := by decide +kernel
theorem dX1_init_83 : decode cX1_init 83 = .ok (.aload_n 0, 1) := by decide +kernel
theorem dX1_init_84 : decode cX1_init 84 = .ok (.aload_n 1, 1) := by decide +kernel
theorem dX1_init_85 : decode cX1_init 85 = .ok (.putfield 46, 3) := by decide +kernel
theorem dX1_init_88 : decode cX1_init 88 = .ok (.aload_n 0, 1) := by decide +kernel
theorem dX1_init_89 : decode cX1_init 89 = .ok (.getfield 18, 3) := by decide +kernel
theorem dX1_init_92 : decode cX1_init 92 = .ok (.iconst (-1), 1) := by decide +kernel
theorem dX1_init_93 : decode cX1_init 93 = .ok (.invokestatic 50, 3) := by decide +kernel
theorem dX1_init_96 : decode cX1_init 96 = .ok (.iconst 0, 1) := by decide +kernel
theorem dX1_init_97 : decode cX1_init 97 = .ok (.istore_n 2, 1) := by decide +kernel
theorem dX1_init_98 : decode cX1_init 98 = .ok (.iload_n 2, 1) := by decide +kernel
theorem dX1_init_99 : decode cX1_init 99 = .ok (.bipush 8, 2) := by decide +kernel
theorem dX1_init_101 : decode cX1_init 101 = .ok (.if_icmp .ge 25, 3) := by decide +kernel
theorem dX1_init_104 : decode cX1_init 104 = .ok (.aload_n 0, 1) := by decide +kernel
theorem dX1_init_105 : decode cX1_init 105 = .ok (.getfield 11, 3) := by decide +kernel
theorem dX1_init_108 : decode cX1_init 108 = .ok (.iload_n 2, 1) := by decide +kernel
theorem dX1_init_109 : decode cX1_init 109 = .ok (.aload_n 0, 1) := by decide +kernel
theorem dX1_init_110 : decode cX1_init 110 = .ok (.getfield 37, 3) := by decide +kernel
theorem dX1_init_113 : decode cX1_init 113 = .ok (.bipush 16, 2) := by decide +kernel
theorem dX1_init_115 : decode cX1_init 115 = .ok (.ior, 1) := by decide +kernel
theorem dX1_init_116 : decode cX1_init 116 = .ok (.bipush 32, 2) := by decide +kernel
theorem dX1_init_118 : decode cX1_init 118 = .ok (.ior, 1) := by decide +kernel
theorem dX1_init_119 : decode cX1_init 119 = .ok (.iastore, 1) := by decide +kernel
theorem dX1_init_120 : decode cX1_init 120 = .ok (.iinc 2 1, 3) := by decide +kernel
theorem dX1_init_123 : decode cX1_init 123 = .ok (.goto (-25), 3) := by decide +kernel
theorem dX1_init_126 : decode cX1_init 126 = .ok (.return_, 1) := by decide +kernel
set_option maxRecDepth 100000 in
set_option maxHeartbeats 4000000 in
theorem c_X1_init (l : Launch) (D : va_G) (aI aB : ClassId) (z h0 hg : Nat) : Met l yX1_init (Cond.code yX1_init cX1_init 3 none :: j_ws) { frames := 1, cells := 7, slots := 482, locals := 40 } (n_Pc D aI aB z h0 0 15 (vp_V [.null, .null, .null, .null, .null, .null, .null, .null, .int 0, .int 0, .int 0, .int 0, .int 0, .int 0, .int 0]) [.ref h0, .ref hg]) (n_Q 7 (fun sz => [(h0, n_at D 0 15 (vp_V [.ref hg, .ref (sz + 0), .ref (sz + 1), .ref (sz + 2), .ref (sz + 3), .ref (sz + 4), .ref (sz + 5), .ref (sz + 6), .int 0, .int (3), .int (8), .int (4), .int 0, .int (6), .int 0])), (sz + 0, n_ar aI 112 (fun j => if j < 8 then 56 else 0)), (sz + 1, n_ar aI 256 (fun _ => 0)), (sz + 2, n_ar aI 48 (fun _ => -1)), (sz + 3, n_ar aI 48 (fun _ => 0)), (sz + 4, n_ar aI 6 (fun _ => 0)), (sz + 5, n_ar aI 6 (fun _ => 0)), (sz + 6, n_ar aI 6 (fun _ => 0))])) 7 482 (fun q => z ≤ q) := by
  refine Met.ofW (cc := cX1_init) (maxL := 3) (ret := none) (by decide +kernel) rfl ?_
  intro p e s m args below meth c s₁ B hml hv
  obtain ⟨rfl, hK, hraw, hz, hN⟩ := hv
  have hts := atoms_spec (ws := Cond.code yX1_init cX1_init 3 none :: j_ws) B.pre
  have cx : j_Cx yX1_init cX1_init 3 none p s m _ meth c := ⟨B.exec, B.bytes, B.returns, hml, fun w hw => hts w (List.mem_cons_of_mem _ hw), findClass_of_methodNamed B.named, B.notSynchronized⟩
  have hin : meth.name = "<init>" := (name_of_methodNamed B.named B.method).1
  have hl := lv_entry ([.ref h0, .ref hg]) (n := 3) (Nat.le_of_ble_eq_true rfl)
  rw [lg_entry_eq]
  generalize (lg_sl ([.ref h0, .ref hg]) ++ List.replicate (3 - (lg_sl ([.ref h0, .ref hg])).length) Slot.unset).toArray = la at hl ⊢
  have hl : lv_has la 3 [(0, .ref h0), (1, .ref hg)] := hl
  have hB := hb.one hraw
  have hlo : ∀ q ∈ ([] : List Loc), z ≤ q.base := fun q hq => by cases hq
  have hz9 : ∀ {k : Nat}, z ≤ s.heap.size + k := fun {k} => by
    obtain ⟨c9, hc9, -⟩ := hraw
    have := (Array.getElem?_eq_some_iff.mp hc9).1
    omega
  refine lv_aload_n cx.1 cx.2.1 dX1_init_0 rfl (lv_at hl 0 rfl) ?_
  refine W.objInit cx.1 cx.2.1 cx.2.2.2.2.2.1 (cx.2.2.2.2.1 _ (j_in 220 (by decide +kernel) (by decide +kernel))) (cx.2.2.2.2.1 _ w_oi) (cx.2.2.2.2.1 _ w_oc) rfl (by rw [hml]; exact hl.1) rfl dX1_init_1 (Nat.le_of_ble_eq_true rfl) (Nat.le_of_ble_eq_true rfl) ?_
  refine W.eq (g2 := F0 m 4 la []) rfl ?_
  refine lv_aload_n cx.1 cx.2.1 dX1_init_4 rfl (lv_at hl 0 rfl) ?_
  refine lv_bipush cx.1 cx.2.1 dX1_init_5 (v := 112) rfl ?_
  refine N_newa cx hK w_ai (v := 112) (k := 112) (q := 9) (by decide) (by decide) (by decide) dX1_init_7 (Nat.le_of_ble_eq_true rfl) (Nat.le_of_ble_eq_true rfl) hB rfl (fun H hB => ?_)
  have hB : hb s.heap H 1 [(h0, n_at D 0 15 (vp_V [.null, .null, .null, .null, .null, .null, .null, .null, .int 0, .int 0, .int 0, .int 0, .int 0, .int 0, .int 0])), (s.heap.size + 0, n_ar aI 112 (fun _ => 0))] := hB
  refine W.eq (g2 := F0 m 9 la [.ref (s.heap.size + 0), .ref h0]) rfl ?_
  refine W.widen (k := 1) (n := 112) (Nat.le_of_ble_eq_true rfl) (Nat.le_of_ble_eq_true rfl) ?_
  refine N_put cx hK (ci := 0) (N := 15) (V' := (vp_V [.null, .ref (s.heap.size + 0), .null, .null, .null, .null, .null, .null, .int 0, .int 0, .int 0, .int 0, .int 0, .int 0, .int 0])) (q := 12) 1 0 dX1_init_9 fRX1_11 (Or.inr ⟨ff_0_1, hin⟩) rfl rfl rfl hB rfl hz hlo (n_setV (Nat.le_of_ble_eq_true rfl) _) rfl (fun H locs hB hlo => ?_)
  have hB : hb s.heap H 1 [(h0, n_at D 0 15 (vp_V [.null, .ref (s.heap.size + 0), .null, .null, .null, .null, .null, .null, .int 0, .int 0, .int 0, .int 0, .int 0, .int 0, .int 0])), (s.heap.size + 0, n_ar aI 112 (fun _ => 0))] := hB
  refine lv_aload_n cx.1 cx.2.1 dX1_init_12 rfl (lv_at hl 0 rfl) ?_
  refine lv_sipush cx.1 cx.2.1 dX1_init_13 (v := 256) rfl ?_
  refine N_newa cx hK w_ai (v := 256) (k := 256) (q := 18) (by decide) (by decide) (by decide) dX1_init_16 (Nat.le_of_ble_eq_true rfl) (Nat.le_of_ble_eq_true rfl) hB rfl (fun H hB => ?_)
  have hB : hb s.heap H 2 [(h0, n_at D 0 15 (vp_V [.null, .ref (s.heap.size + 0), .null, .null, .null, .null, .null, .null, .int 0, .int 0, .int 0, .int 0, .int 0, .int 0, .int 0])), (s.heap.size + 0, n_ar aI 112 (fun _ => 0)), (s.heap.size + 1, n_ar aI 256 (fun _ => 0))] := hB
  refine W.eq (g2 := F0 m 18 la [.ref (s.heap.size + 1), .ref h0]) rfl ?_
  refine W.widen (k := 2) (n := 368) (Nat.le_of_ble_eq_true rfl) (Nat.le_of_ble_eq_true rfl) ?_
  refine N_put cx hK (ci := 0) (N := 15) (V' := (vp_V [.null, .ref (s.heap.size + 0), .ref (s.heap.size + 1), .null, .null, .null, .null, .null, .int 0, .int 0, .int 0, .int 0, .int 0, .int 0, .int 0])) (q := 21) 2 0 dX1_init_18 fRX1_15 (Or.inr ⟨ff_0_2, hin⟩) rfl rfl rfl hB rfl hz hlo (n_setV (Nat.le_of_ble_eq_true rfl) _) rfl (fun H locs hB hlo => ?_)
  have hB : hb s.heap H 2 [(h0, n_at D 0 15 (vp_V [.null, .ref (s.heap.size + 0), .ref (s.heap.size + 1), .null, .null, .null, .null, .null, .int 0, .int 0, .int 0, .int 0, .int 0, .int 0, .int 0])), (s.heap.size + 0, n_ar aI 112 (fun _ => 0)), (s.heap.size + 1, n_ar aI 256 (fun _ => 0))] := hB
  refine lv_aload_n cx.1 cx.2.1 dX1_init_21 rfl (lv_at hl 0 rfl) ?_
  refine lv_bipush cx.1 cx.2.1 dX1_init_22 (v := 48) rfl ?_
  refine N_newa cx hK w_ai (v := 48) (k := 48) (q := 26) (by decide) (by decide) (by decide) dX1_init_24 (Nat.le_of_ble_eq_true rfl) (Nat.le_of_ble_eq_true rfl) hB rfl (fun H hB => ?_)
  have hB : hb s.heap H 3 [(h0, n_at D 0 15 (vp_V [.null, .ref (s.heap.size + 0), .ref (s.heap.size + 1), .null, .null, .null, .null, .null, .int 0, .int 0, .int 0, .int 0, .int 0, .int 0, .int 0])), (s.heap.size + 0, n_ar aI 112 (fun _ => 0)), (s.heap.size + 1, n_ar aI 256 (fun _ => 0)), (s.heap.size + 2, n_ar aI 48 (fun _ => 0))] := hB
  refine W.eq (g2 := F0 m 26 la [.ref (s.heap.size + 2), .ref h0]) rfl ?_
  refine W.widen (k := 3) (n := 416) (Nat.le_of_ble_eq_true rfl) (Nat.le_of_ble_eq_true rfl) ?_
  refine N_put cx hK (ci := 0) (N := 15) (V' := (vp_V [.null, .ref (s.heap.size + 0), .ref (s.heap.size + 1), .ref (s.heap.size + 2), .null, .null, .null, .null, .int 0, .int 0, .int 0, .int 0, .int 0, .int 0, .int 0])) (q := 29) 3 0 dX1_init_26 fRX1_18 (Or.inr ⟨ff_0_3, hin⟩) rfl rfl rfl hB rfl hz hlo (n_setV (Nat.le_of_ble_eq_true rfl) _) rfl (fun H locs hB hlo => ?_)
  have hB : hb s.heap H 3 [(h0, n_at D 0 15 (vp_V [.null, .ref (s.heap.size + 0), .ref (s.heap.size + 1), .ref (s.heap.size + 2), .null, .null, .null, .null, .int 0, .int 0, .int 0, .int 0, .int 0, .int 0, .int 0])), (s.heap.size + 0, n_ar aI 112 (fun _ => 0)), (s.heap.size + 1, n_ar aI 256 (fun _ => 0)), (s.heap.size + 2, n_ar aI 48 (fun _ => 0))] := hB
  refine lv_aload_n cx.1 cx.2.1 dX1_init_29 rfl (lv_at hl 0 rfl) ?_
  refine lv_bipush cx.1 cx.2.1 dX1_init_30 (v := 48) rfl ?_
  refine N_newa cx hK w_ai (v := 48) (k := 48) (q := 34) (by decide) (by decide) (by decide) dX1_init_32 (Nat.le_of_ble_eq_true rfl) (Nat.le_of_ble_eq_true rfl) hB rfl (fun H hB => ?_)
  have hB : hb s.heap H 4 [(h0, n_at D 0 15 (vp_V [.null, .ref (s.heap.size + 0), .ref (s.heap.size + 1), .ref (s.heap.size + 2), .null, .null, .null, .null, .int 0, .int 0, .int 0, .int 0, .int 0, .int 0, .int 0])), (s.heap.size + 0, n_ar aI 112 (fun _ => 0)), (s.heap.size + 1, n_ar aI 256 (fun _ => 0)), (s.heap.size + 2, n_ar aI 48 (fun _ => 0)), (s.heap.size + 3, n_ar aI 48 (fun _ => 0))] := hB
  refine W.eq (g2 := F0 m 34 la [.ref (s.heap.size + 3), .ref h0]) rfl ?_
  refine W.widen (k := 4) (n := 464) (Nat.le_of_ble_eq_true rfl) (Nat.le_of_ble_eq_true rfl) ?_
  refine N_put cx hK (ci := 0) (N := 15) (V' := (vp_V [.null, .ref (s.heap.size + 0), .ref (s.heap.size + 1), .ref (s.heap.size + 2), .ref (s.heap.size + 3), .null, .null, .null, .int 0, .int 0, .int 0, .int 0, .int 0, .int 0, .int 0])) (q := 37) 4 0 dX1_init_34 fRX1_21 (Or.inr ⟨ff_0_4, hin⟩) rfl rfl rfl hB rfl hz hlo (n_setV (Nat.le_of_ble_eq_true rfl) _) rfl (fun H locs hB hlo => ?_)
  have hB : hb s.heap H 4 [(h0, n_at D 0 15 (vp_V [.null, .ref (s.heap.size + 0), .ref (s.heap.size + 1), .ref (s.heap.size + 2), .ref (s.heap.size + 3), .null, .null, .null, .int 0, .int 0, .int 0, .int 0, .int 0, .int 0, .int 0])), (s.heap.size + 0, n_ar aI 112 (fun _ => 0)), (s.heap.size + 1, n_ar aI 256 (fun _ => 0)), (s.heap.size + 2, n_ar aI 48 (fun _ => 0)), (s.heap.size + 3, n_ar aI 48 (fun _ => 0))] := hB
  refine lv_aload_n cx.1 cx.2.1 dX1_init_37 rfl (lv_at hl 0 rfl) ?_
  refine lv_bipush cx.1 cx.2.1 dX1_init_38 (v := 6) rfl ?_
  refine N_newa cx hK w_ai (v := 6) (k := 6) (q := 42) (by decide) (by decide) (by decide) dX1_init_40 (Nat.le_of_ble_eq_true rfl) (Nat.le_of_ble_eq_true rfl) hB rfl (fun H hB => ?_)
  have hB : hb s.heap H 5 [(h0, n_at D 0 15 (vp_V [.null, .ref (s.heap.size + 0), .ref (s.heap.size + 1), .ref (s.heap.size + 2), .ref (s.heap.size + 3), .null, .null, .null, .int 0, .int 0, .int 0, .int 0, .int 0, .int 0, .int 0])), (s.heap.size + 0, n_ar aI 112 (fun _ => 0)), (s.heap.size + 1, n_ar aI 256 (fun _ => 0)), (s.heap.size + 2, n_ar aI 48 (fun _ => 0)), (s.heap.size + 3, n_ar aI 48 (fun _ => 0)), (s.heap.size + 4, n_ar aI 6 (fun _ => 0))] := hB
  refine W.eq (g2 := F0 m 42 la [.ref (s.heap.size + 4), .ref h0]) rfl ?_
  refine W.widen (k := 5) (n := 470) (Nat.le_of_ble_eq_true rfl) (Nat.le_of_ble_eq_true rfl) ?_
  refine N_put cx hK (ci := 0) (N := 15) (V' := (vp_V [.null, .ref (s.heap.size + 0), .ref (s.heap.size + 1), .ref (s.heap.size + 2), .ref (s.heap.size + 3), .ref (s.heap.size + 4), .null, .null, .int 0, .int 0, .int 0, .int 0, .int 0, .int 0, .int 0])) (q := 45) 5 0 dX1_init_42 fRX1_24 (Or.inr ⟨ff_0_5, hin⟩) rfl rfl rfl hB rfl hz hlo (n_setV (Nat.le_of_ble_eq_true rfl) _) rfl (fun H locs hB hlo => ?_)
  have hB : hb s.heap H 5 [(h0, n_at D 0 15 (vp_V [.null, .ref (s.heap.size + 0), .ref (s.heap.size + 1), .ref (s.heap.size + 2), .ref (s.heap.size + 3), .ref (s.heap.size + 4), .null, .null, .int 0, .int 0, .int 0, .int 0, .int 0, .int 0, .int 0])), (s.heap.size + 0, n_ar aI 112 (fun _ => 0)), (s.heap.size + 1, n_ar aI 256 (fun _ => 0)), (s.heap.size + 2, n_ar aI 48 (fun _ => 0)), (s.heap.size + 3, n_ar aI 48 (fun _ => 0)), (s.heap.size + 4, n_ar aI 6 (fun _ => 0))] := hB
  refine lv_aload_n cx.1 cx.2.1 dX1_init_45 rfl (lv_at hl 0 rfl) ?_
  refine lv_bipush cx.1 cx.2.1 dX1_init_46 (v := 6) rfl ?_
  refine N_newa cx hK w_ai (v := 6) (k := 6) (q := 50) (by decide) (by decide) (by decide) dX1_init_48 (Nat.le_of_ble_eq_true rfl) (Nat.le_of_ble_eq_true rfl) hB rfl (fun H hB => ?_)
  have hB : hb s.heap H 6 [(h0, n_at D 0 15 (vp_V [.null, .ref (s.heap.size + 0), .ref (s.heap.size + 1), .ref (s.heap.size + 2), .ref (s.heap.size + 3), .ref (s.heap.size + 4), .null, .null, .int 0, .int 0, .int 0, .int 0, .int 0, .int 0, .int 0])), (s.heap.size + 0, n_ar aI 112 (fun _ => 0)), (s.heap.size + 1, n_ar aI 256 (fun _ => 0)), (s.heap.size + 2, n_ar aI 48 (fun _ => 0)), (s.heap.size + 3, n_ar aI 48 (fun _ => 0)), (s.heap.size + 4, n_ar aI 6 (fun _ => 0)), (s.heap.size + 5, n_ar aI 6 (fun _ => 0))] := hB
  refine W.eq (g2 := F0 m 50 la [.ref (s.heap.size + 5), .ref h0]) rfl ?_
  refine W.widen (k := 6) (n := 476) (Nat.le_of_ble_eq_true rfl) (Nat.le_of_ble_eq_true rfl) ?_
  refine N_put cx hK (ci := 0) (N := 15) (V' := (vp_V [.null, .ref (s.heap.size + 0), .ref (s.heap.size + 1), .ref (s.heap.size + 2), .ref (s.heap.size + 3), .ref (s.heap.size + 4), .ref (s.heap.size + 5), .null, .int 0, .int 0, .int 0, .int 0, .int 0, .int 0, .int 0])) (q := 53) 6 0 dX1_init_50 fRX1_27 (Or.inr ⟨ff_0_6, hin⟩) rfl rfl rfl hB rfl hz hlo (n_setV (Nat.le_of_ble_eq_true rfl) _) rfl (fun H locs hB hlo => ?_)
  have hB : hb s.heap H 6 [(h0, n_at D 0 15 (vp_V [.null, .ref (s.heap.size + 0), .ref (s.heap.size + 1), .ref (s.heap.size + 2), .ref (s.heap.size + 3), .ref (s.heap.size + 4), .ref (s.heap.size + 5), .null, .int 0, .int 0, .int 0, .int 0, .int 0, .int 0, .int 0])), (s.heap.size + 0, n_ar aI 112 (fun _ => 0)), (s.heap.size + 1, n_ar aI 256 (fun _ => 0)), (s.heap.size + 2, n_ar aI 48 (fun _ => 0)), (s.heap.size + 3, n_ar aI 48 (fun _ => 0)), (s.heap.size + 4, n_ar aI 6 (fun _ => 0)), (s.heap.size + 5, n_ar aI 6 (fun _ => 0))] := hB
  refine lv_aload_n cx.1 cx.2.1 dX1_init_53 rfl (lv_at hl 0 rfl) ?_
  refine lv_bipush cx.1 cx.2.1 dX1_init_54 (v := 6) rfl ?_
  refine N_newa cx hK w_ai (v := 6) (k := 6) (q := 58) (by decide) (by decide) (by decide) dX1_init_56 (Nat.le_of_ble_eq_true rfl) (Nat.le_of_ble_eq_true rfl) hB rfl (fun H hB => ?_)
  have hB : hb s.heap H 7 [(h0, n_at D 0 15 (vp_V [.null, .ref (s.heap.size + 0), .ref (s.heap.size + 1), .ref (s.heap.size + 2), .ref (s.heap.size + 3), .ref (s.heap.size + 4), .ref (s.heap.size + 5), .null, .int 0, .int 0, .int 0, .int 0, .int 0, .int 0, .int 0])), (s.heap.size + 0, n_ar aI 112 (fun _ => 0)), (s.heap.size + 1, n_ar aI 256 (fun _ => 0)), (s.heap.size + 2, n_ar aI 48 (fun _ => 0)), (s.heap.size + 3, n_ar aI 48 (fun _ => 0)), (s.heap.size + 4, n_ar aI 6 (fun _ => 0)), (s.heap.size + 5, n_ar aI 6 (fun _ => 0)), (s.heap.size + 6, n_ar aI 6 (fun _ => 0))] := hB
  refine W.eq (g2 := F0 m 58 la [.ref (s.heap.size + 6), .ref h0]) rfl ?_
  refine W.widen (k := 7) (n := 482) (Nat.le_of_ble_eq_true rfl) (Nat.le_of_ble_eq_true rfl) ?_
  refine N_put cx hK (ci := 0) (N := 15) (V' := (vp_V [.null, .ref (s.heap.size + 0), .ref (s.heap.size + 1), .ref (s.heap.size + 2), .ref (s.heap.size + 3), .ref (s.heap.size + 4), .ref (s.heap.size + 5), .ref (s.heap.size + 6), .int 0, .int 0, .int 0, .int 0, .int 0, .int 0, .int 0])) (q := 61) 7 0 dX1_init_58 fRX1_30 (Or.inr ⟨ff_0_7, hin⟩) rfl rfl rfl hB rfl hz hlo (n_setV (Nat.le_of_ble_eq_true rfl) _) rfl (fun H locs hB hlo => ?_)
  have hB : hb s.heap H 7 [(h0, n_at D 0 15 (vp_V [.null, .ref (s.heap.size + 0), .ref (s.heap.size + 1), .ref (s.heap.size + 2), .ref (s.heap.size + 3), .ref (s.heap.size + 4), .ref (s.heap.size + 5), .ref (s.heap.size + 6), .int 0, .int 0, .int 0, .int 0, .int 0, .int 0, .int 0])), (s.heap.size + 0, n_ar aI 112 (fun _ => 0)), (s.heap.size + 1, n_ar aI 256 (fun _ => 0)), (s.heap.size + 2, n_ar aI 48 (fun _ => 0)), (s.heap.size + 3, n_ar aI 48 (fun _ => 0)), (s.heap.size + 4, n_ar aI 6 (fun _ => 0)), (s.heap.size + 5, n_ar aI 6 (fun _ => 0)), (s.heap.size + 6, n_ar aI 6 (fun _ => 0))] := hB
  refine lv_aload_n cx.1 cx.2.1 dX1_init_61 rfl (lv_at hl 0 rfl) ?_
  refine lv_iconst cx.1 cx.2.1 dX1_init_62 (v := 3) rfl ?_
  refine N_put cx hK (ci := 0) (N := 15) (V' := (vp_V [.null, .ref (s.heap.size + 0), .ref (s.heap.size + 1), .ref (s.heap.size + 2), .ref (s.heap.size + 3), .ref (s.heap.size + 4), .ref (s.heap.size + 5), .ref (s.heap.size + 6), .int 0, .int (3), .int 0, .int 0, .int 0, .int 0, .int 0])) (q := 66) 9 0 dX1_init_63 fRX1_33 (Or.inl fp_0_9) rfl rfl rfl hB rfl hz hlo (n_setV (Nat.le_of_ble_eq_true rfl) _) rfl (fun H locs hB hlo => ?_)
  have hB : hb s.heap H 7 [(h0, n_at D 0 15 (vp_V [.null, .ref (s.heap.size + 0), .ref (s.heap.size + 1), .ref (s.heap.size + 2), .ref (s.heap.size + 3), .ref (s.heap.size + 4), .ref (s.heap.size + 5), .ref (s.heap.size + 6), .int 0, .int (3), .int 0, .int 0, .int 0, .int 0, .int 0])), (s.heap.size + 0, n_ar aI 112 (fun _ => 0)), (s.heap.size + 1, n_ar aI 256 (fun _ => 0)), (s.heap.size + 2, n_ar aI 48 (fun _ => 0)), (s.heap.size + 3, n_ar aI 48 (fun _ => 0)), (s.heap.size + 4, n_ar aI 6 (fun _ => 0)), (s.heap.size + 5, n_ar aI 6 (fun _ => 0)), (s.heap.size + 6, n_ar aI 6 (fun _ => 0))] := hB
  refine lv_aload_n cx.1 cx.2.1 dX1_init_66 rfl (lv_at hl 0 rfl) ?_
  refine lv_bipush cx.1 cx.2.1 dX1_init_67 (v := 8) rfl ?_
  refine N_put cx hK (ci := 0) (N := 15) (V' := (vp_V [.null, .ref (s.heap.size + 0), .ref (s.heap.size + 1), .ref (s.heap.size + 2), .ref (s.heap.size + 3), .ref (s.heap.size + 4), .ref (s.heap.size + 5), .ref (s.heap.size + 6), .int 0, .int (3), .int (8), .int 0, .int 0, .int 0, .int 0])) (q := 72) 10 0 dX1_init_69 fRX1_37 (Or.inl fp_0_10) rfl rfl rfl hB rfl hz hlo (n_setV (Nat.le_of_ble_eq_true rfl) _) rfl (fun H locs hB hlo => ?_)
  have hB : hb s.heap H 7 [(h0, n_at D 0 15 (vp_V [.null, .ref (s.heap.size + 0), .ref (s.heap.size + 1), .ref (s.heap.size + 2), .ref (s.heap.size + 3), .ref (s.heap.size + 4), .ref (s.heap.size + 5), .ref (s.heap.size + 6), .int 0, .int (3), .int (8), .int 0, .int 0, .int 0, .int 0])), (s.heap.size + 0, n_ar aI 112 (fun _ => 0)), (s.heap.size + 1, n_ar aI 256 (fun _ => 0)), (s.heap.size + 2, n_ar aI 48 (fun _ => 0)), (s.heap.size + 3, n_ar aI 48 (fun _ => 0)), (s.heap.size + 4, n_ar aI 6 (fun _ => 0)), (s.heap.size + 5, n_ar aI 6 (fun _ => 0)), (s.heap.size + 6, n_ar aI 6 (fun _ => 0))] := hB
  refine lv_aload_n cx.1 cx.2.1 dX1_init_72 rfl (lv_at hl 0 rfl) ?_
  refine lv_iconst cx.1 cx.2.1 dX1_init_73 (v := 4) rfl ?_
  refine N_put cx hK (ci := 0) (N := 15) (V' := (vp_V [.null, .ref (s.heap.size + 0), .ref (s.heap.size + 1), .ref (s.heap.size + 2), .ref (s.heap.size + 3), .ref (s.heap.size + 4), .ref (s.heap.size + 5), .ref (s.heap.size + 6), .int 0, .int (3), .int (8), .int (4), .int 0, .int 0, .int 0])) (q := 77) 11 0 dX1_init_74 fRX1_40 (Or.inl fp_0_11) rfl rfl rfl hB rfl hz hlo (n_setV (Nat.le_of_ble_eq_true rfl) _) rfl (fun H locs hB hlo => ?_)
  have hB : hb s.heap H 7 [(h0, n_at D 0 15 (vp_V [.null, .ref (s.heap.size + 0), .ref (s.heap.size + 1), .ref (s.heap.size + 2), .ref (s.heap.size + 3), .ref (s.heap.size + 4), .ref (s.heap.size + 5), .ref (s.heap.size + 6), .int 0, .int (3), .int (8), .int (4), .int 0, .int 0, .int 0])), (s.heap.size + 0, n_ar aI 112 (fun _ => 0)), (s.heap.size + 1, n_ar aI 256 (fun _ => 0)), (s.heap.size + 2, n_ar aI 48 (fun _ => 0)), (s.heap.size + 3, n_ar aI 48 (fun _ => 0)), (s.heap.size + 4, n_ar aI 6 (fun _ => 0)), (s.heap.size + 5, n_ar aI 6 (fun _ => 0)), (s.heap.size + 6, n_ar aI 6 (fun _ => 0))] := hB
  refine lv_aload_n cx.1 cx.2.1 dX1_init_77 rfl (lv_at hl 0 rfl) ?_
  refine lv_bipush cx.1 cx.2.1 dX1_init_78 (v := 6) rfl ?_
  refine N_put cx hK (ci := 0) (N := 15) (V' := (vp_V [.null, .ref (s.heap.size + 0), .ref (s.heap.size + 1), .ref (s.heap.size + 2), .ref (s.heap.size + 3), .ref (s.heap.size + 4), .ref (s.heap.size + 5), .ref (s.heap.size + 6), .int 0, .int (3), .int (8), .int (4), .int 0, .int (6), .int 0])) (q := 83) 13 0 dX1_init_80 fRX1_43 (Or.inl fp_0_13) rfl rfl rfl hB rfl hz hlo (n_setV (Nat.le_of_ble_eq_true rfl) _) rfl (fun H locs hB hlo => ?_)
  have hB : hb s.heap H 7 [(h0, n_at D 0 15 (vp_V [.null, .ref (s.heap.size + 0), .ref (s.heap.size + 1), .ref (s.heap.size + 2), .ref (s.heap.size + 3), .ref (s.heap.size + 4), .ref (s.heap.size + 5), .ref (s.heap.size + 6), .int 0, .int (3), .int (8), .int (4), .int 0, .int (6), .int 0])), (s.heap.size + 0, n_ar aI 112 (fun _ => 0)), (s.heap.size + 1, n_ar aI 256 (fun _ => 0)), (s.heap.size + 2, n_ar aI 48 (fun _ => 0)), (s.heap.size + 3, n_ar aI 48 (fun _ => 0)), (s.heap.size + 4, n_ar aI 6 (fun _ => 0)), (s.heap.size + 5, n_ar aI 6 (fun _ => 0)), (s.heap.size + 6, n_ar aI 6 (fun _ => 0))] := hB
  refine lv_aload_n cx.1 cx.2.1 dX1_init_83 rfl (lv_at hl 0 rfl) ?_
  refine lv_aload_n cx.1 cx.2.1 dX1_init_84 rfl (lv_at hl 1 rfl) ?_
  refine N_put cx hK (ci := 0) (N := 15) (V' := (vp_V [.ref hg, .ref (s.heap.size + 0), .ref (s.heap.size + 1), .ref (s.heap.size + 2), .ref (s.heap.size + 3), .ref (s.heap.size + 4), .ref (s.heap.size + 5), .ref (s.heap.size + 6), .int 0, .int (3), .int (8), .int (4), .int 0, .int (6), .int 0])) (q := 88) 0 0 dX1_init_85 fRX1_46 (Or.inr ⟨ff_0_0, hin⟩) rfl rfl rfl hB rfl hz hlo (n_setV (Nat.le_of_ble_eq_true rfl) _) rfl (fun H locs hB hlo => ?_)
  have hB : hb s.heap H 7 [(h0, n_at D 0 15 (vp_V [.ref hg, .ref (s.heap.size + 0), .ref (s.heap.size + 1), .ref (s.heap.size + 2), .ref (s.heap.size + 3), .ref (s.heap.size + 4), .ref (s.heap.size + 5), .ref (s.heap.size + 6), .int 0, .int (3), .int (8), .int (4), .int 0, .int (6), .int 0])), (s.heap.size + 0, n_ar aI 112 (fun _ => 0)), (s.heap.size + 1, n_ar aI 256 (fun _ => 0)), (s.heap.size + 2, n_ar aI 48 (fun _ => 0)), (s.heap.size + 3, n_ar aI 48 (fun _ => 0)), (s.heap.size + 4, n_ar aI 6 (fun _ => 0)), (s.heap.size + 5, n_ar aI 6 (fun _ => 0)), (s.heap.size + 6, n_ar aI 6 (fun _ => 0))] := hB
  refine lv_aload_n cx.1 cx.2.1 dX1_init_88 rfl (lv_at hl 0 rfl) ?_
  refine N_get cx hK (ci := 0) (N := 15) (v := .ref (s.heap.size + 2)) (q := 92) 3 0 dX1_init_89 fRX1_18 rfl hB rfl rfl rfl ?_
  refine lv_iconst cx.1 cx.2.1 dX1_init_92 (v := -1) rfl ?_
  refine N_fill cx hK (q := 96) (N := 48) 3 (j_in 221 (by decide +kernel) (by decide +kernel)) (j_in 222 (by decide +kernel) (by decide +kernel)) dX1_init_93 hl.1 (Nat.le_of_ble_eq_true rfl) ⟨Nat.le_of_ble_eq_true rfl, Nat.le_of_ble_eq_true rfl⟩ ⟨Nat.le_of_ble_eq_true rfl, Nat.le_of_ble_eq_true rfl⟩ hB rfl hz9 hlo rfl (fun H locs hB hlo => ?_)
  have hB : hb s.heap H 7 [(h0, n_at D 0 15 (vp_V [.ref hg, .ref (s.heap.size + 0), .ref (s.heap.size + 1), .ref (s.heap.size + 2), .ref (s.heap.size + 3), .ref (s.heap.size + 4), .ref (s.heap.size + 5), .ref (s.heap.size + 6), .int 0, .int (3), .int (8), .int (4), .int 0, .int (6), .int 0])), (s.heap.size + 0, n_ar aI 112 (fun _ => 0)), (s.heap.size + 1, n_ar aI 256 (fun _ => 0)), (s.heap.size + 2, n_ar aI 48 (fun _ => -1)), (s.heap.size + 3, n_ar aI 48 (fun _ => 0)), (s.heap.size + 4, n_ar aI 6 (fun _ => 0)), (s.heap.size + 5, n_ar aI 6 (fun _ => 0)), (s.heap.size + 6, n_ar aI 6 (fun _ => 0))] := hB
  refine lv_iconst cx.1 cx.2.1 dX1_init_96 (v := 0) rfl ?_
  refine lv_istore_n cx.1 cx.2.1 dX1_init_97 rfl hl (by decide) (lv' := [(2, .int 0), (0, .ref h0), (1, .ref hg)]) rfl (fun la hl => ?_)
  refine lv_iload_n cx.1 cx.2.1 dX1_init_98 rfl (lv_at hl 0 rfl) ?_
  refine lv_bipush cx.1 cx.2.1 dX1_init_99 (v := 8) rfl ?_
  refine lv_icmp_ge cx.1 cx.2.1 dX1_init_101 (tgt := 126) rfl (fun hc => absurd hc (by decide)) (fun _ => ?_)
  refine lv_aload_n cx.1 cx.2.1 dX1_init_104 rfl (lv_at hl 1 rfl) ?_
  refine N_get cx hK (ci := 0) (N := 15) (v := .ref (s.heap.size + 0)) (q := 108) 1 0 dX1_init_105 fRX1_11 rfl hB rfl rfl rfl ?_
  refine lv_iload_n cx.1 cx.2.1 dX1_init_108 rfl (lv_at hl 0 rfl) ?_
  refine lv_aload_n cx.1 cx.2.1 dX1_init_109 rfl (lv_at hl 1 rfl) ?_
  refine N_get cx hK (ci := 0) (N := 15) (v := .int 8) (q := 113) 10 0 dX1_init_110 fRX1_37 rfl hB rfl rfl rfl ?_
  refine lv_bipush cx.1 cx.2.1 dX1_init_113 (v := 16) rfl ?_
  refine lv_ior cx.1 cx.2.1 dX1_init_115 ?_
  refine lv_bipush cx.1 cx.2.1 dX1_init_116 (v := 32) rfl ?_
  refine lv_ior cx.1 cx.2.1 dX1_init_118 ?_
  refine N_iast cx hK (q := 120) (N := 112) (f' := (fun j => if j < 1 then 56 else 0)) 1 dX1_init_119 hB rfl (by unfold vp_in; decide) hz9 hlo n_up0 rfl (fun H locs hB hlo => ?_)
  have hB : hb s.heap H 7 [(h0, n_at D 0 15 (vp_V [.ref hg, .ref (s.heap.size + 0), .ref (s.heap.size + 1), .ref (s.heap.size + 2), .ref (s.heap.size + 3), .ref (s.heap.size + 4), .ref (s.heap.size + 5), .ref (s.heap.size + 6), .int 0, .int (3), .int (8), .int (4), .int 0, .int (6), .int 0])), (s.heap.size + 0, n_ar aI 112 (fun j => if j < 1 then 56 else 0)), (s.heap.size + 1, n_ar aI 256 (fun _ => 0)), (s.heap.size + 2, n_ar aI 48 (fun _ => -1)), (s.heap.size + 3, n_ar aI 48 (fun _ => 0)), (s.heap.size + 4, n_ar aI 6 (fun _ => 0)), (s.heap.size + 5, n_ar aI 6 (fun _ => 0)), (s.heap.size + 6, n_ar aI 6 (fun _ => 0))] := hB
  refine lv_iinc cx.1 cx.2.1 (k := 0) (v := 1) dX1_init_120 hl rfl rfl (by decide) (lv' := [(2, .int 1), (0, .ref h0), (1, .ref hg)]) rfl (fun la hl => ?_)
  refine lv_goto cx.1 cx.2.1 dX1_init_123 (tgt := 98) rfl ?_
  refine lv_iload_n cx.1 cx.2.1 dX1_init_98 rfl (lv_at hl 0 rfl) ?_
  refine lv_bipush cx.1 cx.2.1 dX1_init_99 (v := 8) rfl ?_
  refine lv_icmp_ge cx.1 cx.2.1 dX1_init_101 (tgt := 126) rfl (fun hc => absurd hc (by decide)) (fun _ => ?_)
  refine lv_aload_n cx.1 cx.2.1 dX1_init_104 rfl (lv_at hl 1 rfl) ?_
  refine N_get cx hK (ci := 0) (N := 15) (v := .ref (s.heap.size + 0)) (q := 108) 1 0 dX1_init_105 fRX1_11 rfl hB rfl rfl rfl ?_
  refine lv_iload_n cx.1 cx.2.1 dX1_init_108 rfl (lv_at hl 0 rfl) ?_
  refine lv_aload_n cx.1 cx.2.1 dX1_init_109 rfl (lv_at hl 1 rfl) ?_
  refine N_get cx hK (ci := 0) (N := 15) (v := .int 8) (q := 113) 10 0 dX1_init_110 fRX1_37 rfl hB rfl rfl rfl ?_
  refine lv_bipush cx.1 cx.2.1 dX1_init_113 (v := 16) rfl ?_
  refine lv_ior cx.1 cx.2.1 dX1_init_115 ?_
  refine lv_bipush cx.1 cx.2.1 dX1_init_116 (v := 32) rfl ?_
  refine lv_ior cx.1 cx.2.1 dX1_init_118 ?_
  refine N_iast cx hK (q := 120) (N := 112) (f' := (fun j => if j < 2 then 56 else 0)) 1 dX1_init_119 hB rfl (by unfold vp_in; decide) hz9 hlo n_up1 rfl (fun H locs hB hlo => ?_)
  have hB : hb s.heap H 7 [(h0, n_at D 0 15 (vp_V [.ref hg, .ref (s.heap.size + 0), .ref (s.heap.size + 1), .ref (s.heap.size + 2), .ref (s.heap.size + 3), .ref (s.heap.size + 4), .ref (s.heap.size + 5), .ref (s.heap.size + 6), .int 0, .int (3), .int (8), .int (4), .int 0, .int (6), .int 0])), (s.heap.size + 0, n_ar aI 112 (fun j => if j < 2 then 56 else 0)), (s.heap.size + 1, n_ar aI 256 (fun _ => 0)), (s.heap.size + 2, n_ar aI 48 (fun _ => -1)), (s.heap.size + 3, n_ar aI 48 (fun _ => 0)), (s.heap.size + 4, n_ar aI 6 (fun _ => 0)), (s.heap.size + 5, n_ar aI 6 (fun _ => 0)), (s.heap.size + 6, n_ar aI 6 (fun _ => 0))] := hB
  refine lv_iinc cx.1 cx.2.1 (k := 0) (v := 2) dX1_init_120 hl rfl rfl (by decide) (lv' := [(2, .int 2), (0, .ref h0), (1, .ref hg)]) rfl (fun la hl => ?_)
  refine lv_goto cx.1 cx.2.1 dX1_init_123 (tgt := 98) rfl ?_
  refine lv_iload_n cx.1 cx.2.1 dX1_init_98 rfl (lv_at hl 0 rfl) ?_
  refine lv_bipush cx.1 cx.2.1 dX1_init_99 (v := 8) rfl ?_
  refine lv_icmp_ge cx.1 cx.2.1 dX1_init_101 (tgt := 126) rfl (fun hc => absurd hc (by decide)) (fun _ => ?_)
  refine lv_aload_n cx.1 cx.2.1 dX1_init_104 rfl (lv_at hl 1 rfl) ?_
  refine N_get cx hK (ci := 0) (N := 15) (v := .ref (s.heap.size + 0)) (q := 108) 1 0 dX1_init_105 fRX1_11 rfl hB rfl rfl rfl ?_
  refine lv_iload_n cx.1 cx.2.1 dX1_init_108 rfl (lv_at hl 0 rfl) ?_
  refine lv_aload_n cx.1 cx.2.1 dX1_init_109 rfl (lv_at hl 1 rfl) ?_
  refine N_get cx hK (ci := 0) (N := 15) (v := .int 8) (q := 113) 10 0 dX1_init_110 fRX1_37 rfl hB rfl rfl rfl ?_
  refine lv_bipush cx.1 cx.2.1 dX1_init_113 (v := 16) rfl ?_
  refine lv_ior cx.1 cx.2.1 dX1_init_115 ?_
  refine lv_bipush cx.1 cx.2.1 dX1_init_116 (v := 32) rfl ?_
  refine lv_ior cx.1 cx.2.1 dX1_init_118 ?_
  refine N_iast cx hK (q := 120) (N := 112) (f' := (fun j => if j < 3 then 56 else 0)) 1 dX1_init_119 hB rfl (by unfold vp_in; decide) hz9 hlo n_up2 rfl (fun H locs hB hlo => ?_)
  have hB : hb s.heap H 7 [(h0, n_at D 0 15 (vp_V [.ref hg, .ref (s.heap.size + 0), .ref (s.heap.size + 1), .ref (s.heap.size + 2), .ref (s.heap.size + 3), .ref (s.heap.size + 4), .ref (s.heap.size + 5), .ref (s.heap.size + 6), .int 0, .int (3), .int (8), .int (4), .int 0, .int (6), .int 0])), (s.heap.size + 0, n_ar aI 112 (fun j => if j < 3 then 56 else 0)), (s.heap.size + 1, n_ar aI 256 (fun _ => 0)), (s.heap.size + 2, n_ar aI 48 (fun _ => -1)), (s.heap.size + 3, n_ar aI 48 (fun _ => 0)), (s.heap.size + 4, n_ar aI 6 (fun _ => 0)), (s.heap.size + 5, n_ar aI 6 (fun _ => 0)), (s.heap.size + 6, n_ar aI 6 (fun _ => 0))] := hB
  refine lv_iinc cx.1 cx.2.1 (k := 0) (v := 3) dX1_init_120 hl rfl rfl (by decide) (lv' := [(2, .int 3), (0, .ref h0), (1, .ref hg)]) rfl (fun la hl => ?_)
  refine lv_goto cx.1 cx.2.1 dX1_init_123 (tgt := 98) rfl ?_
  refine lv_iload_n cx.1 cx.2.1 dX1_init_98 rfl (lv_at hl 0 rfl) ?_
  refine lv_bipush cx.1 cx.2.1 dX1_init_99 (v := 8) rfl ?_
  refine lv_icmp_ge cx.1 cx.2.1 dX1_init_101 (tgt := 126) rfl (fun hc => absurd hc (by decide)) (fun _ => ?_)
  refine lv_aload_n cx.1 cx.2.1 dX1_init_104 rfl (lv_at hl 1 rfl) ?_
  refine N_get cx hK (ci := 0) (N := 15) (v := .ref (s.heap.size + 0)) (q := 108) 1 0 dX1_init_105 fRX1_11 rfl hB rfl rfl rfl ?_
  refine lv_iload_n cx.1 cx.2.1 dX1_init_108 rfl (lv_at hl 0 rfl) ?_
  refine lv_aload_n cx.1 cx.2.1 dX1_init_109 rfl (lv_at hl 1 rfl) ?_
  refine N_get cx hK (ci := 0) (N := 15) (v := .int 8) (q := 113) 10 0 dX1_init_110 fRX1_37 rfl hB rfl rfl rfl ?_
  refine lv_bipush cx.1 cx.2.1 dX1_init_113 (v := 16) rfl ?_
  refine lv_ior cx.1 cx.2.1 dX1_init_115 ?_
  refine lv_bipush cx.1 cx.2.1 dX1_init_116 (v := 32) rfl ?_
  refine lv_ior cx.1 cx.2.1 dX1_init_118 ?_
  refine N_iast cx hK (q := 120) (N := 112) (f' := (fun j => if j < 4 then 56 else 0)) 1 dX1_init_119 hB rfl (by unfold vp_in; decide) hz9 hlo n_up3 rfl (fun H locs hB hlo => ?_)
  have hB : hb s.heap H 7 [(h0, n_at D 0 15 (vp_V [.ref hg, .ref (s.heap.size + 0), .ref (s.heap.size + 1), .ref (s.heap.size + 2), .ref (s.heap.size + 3), .ref (s.heap.size + 4), .ref (s.heap.size + 5), .ref (s.heap.size + 6), .int 0, .int (3), .int (8), .int (4), .int 0, .int (6), .int 0])), (s.heap.size + 0, n_ar aI 112 (fun j => if j < 4 then 56 else 0)), (s.heap.size + 1, n_ar aI 256 (fun _ => 0)), (s.heap.size + 2, n_ar aI 48 (fun _ => -1)), (s.heap.size + 3, n_ar aI 48 (fun _ => 0)), (s.heap.size + 4, n_ar aI 6 (fun _ => 0)), (s.heap.size + 5, n_ar aI 6 (fun _ => 0)), (s.heap.size + 6, n_ar aI 6 (fun _ => 0))] := hB
  refine lv_iinc cx.1 cx.2.1 (k := 0) (v := 4) dX1_init_120 hl rfl rfl (by decide) (lv' := [(2, .int 4), (0, .ref h0), (1, .ref hg)]) rfl (fun la hl => ?_)
  refine lv_goto cx.1 cx.2.1 dX1_init_123 (tgt := 98) rfl ?_
  refine lv_iload_n cx.1 cx.2.1 dX1_init_98 rfl (lv_at hl 0 rfl) ?_
  refine lv_bipush cx.1 cx.2.1 dX1_init_99 (v := 8) rfl ?_
  refine lv_icmp_ge cx.1 cx.2.1 dX1_init_101 (tgt := 126) rfl (fun hc => absurd hc (by decide)) (fun _ => ?_)
  refine lv_aload_n cx.1 cx.2.1 dX1_init_104 rfl (lv_at hl 1 rfl) ?_
  refine N_get cx hK (ci := 0) (N := 15) (v := .ref (s.heap.size + 0)) (q := 108) 1 0 dX1_init_105 fRX1_11 rfl hB rfl rfl rfl ?_
  refine lv_iload_n cx.1 cx.2.1 dX1_init_108 rfl (lv_at hl 0 rfl) ?_
  refine lv_aload_n cx.1 cx.2.1 dX1_init_109 rfl (lv_at hl 1 rfl) ?_
  refine N_get cx hK (ci := 0) (N := 15) (v := .int 8) (q := 113) 10 0 dX1_init_110 fRX1_37 rfl hB rfl rfl rfl ?_
  refine lv_bipush cx.1 cx.2.1 dX1_init_113 (v := 16) rfl ?_
  refine lv_ior cx.1 cx.2.1 dX1_init_115 ?_
  refine lv_bipush cx.1 cx.2.1 dX1_init_116 (v := 32) rfl ?_
  refine lv_ior cx.1 cx.2.1 dX1_init_118 ?_
  refine N_iast cx hK (q := 120) (N := 112) (f' := (fun j => if j < 5 then 56 else 0)) 1 dX1_init_119 hB rfl (by unfold vp_in; decide) hz9 hlo n_up4 rfl (fun H locs hB hlo => ?_)
  have hB : hb s.heap H 7 [(h0, n_at D 0 15 (vp_V [.ref hg, .ref (s.heap.size + 0), .ref (s.heap.size + 1), .ref (s.heap.size + 2), .ref (s.heap.size + 3), .ref (s.heap.size + 4), .ref (s.heap.size + 5), .ref (s.heap.size + 6), .int 0, .int (3), .int (8), .int (4), .int 0, .int (6), .int 0])), (s.heap.size + 0, n_ar aI 112 (fun j => if j < 5 then 56 else 0)), (s.heap.size + 1, n_ar aI 256 (fun _ => 0)), (s.heap.size + 2, n_ar aI 48 (fun _ => -1)), (s.heap.size + 3, n_ar aI 48 (fun _ => 0)), (s.heap.size + 4, n_ar aI 6 (fun _ => 0)), (s.heap.size + 5, n_ar aI 6 (fun _ => 0)), (s.heap.size + 6, n_ar aI 6 (fun _ => 0))] := hB
  refine lv_iinc cx.1 cx.2.1 (k := 0) (v := 5) dX1_init_120 hl rfl rfl (by decide) (lv' := [(2, .int 5), (0, .ref h0), (1, .ref hg)]) rfl (fun la hl => ?_)
  refine lv_goto cx.1 cx.2.1 dX1_init_123 (tgt := 98) rfl ?_
  refine lv_iload_n cx.1 cx.2.1 dX1_init_98 rfl (lv_at hl 0 rfl) ?_
  refine lv_bipush cx.1 cx.2.1 dX1_init_99 (v := 8) rfl ?_
  refine lv_icmp_ge cx.1 cx.2.1 dX1_init_101 (tgt := 126) rfl (fun hc => absurd hc (by decide)) (fun _ => ?_)
  refine lv_aload_n cx.1 cx.2.1 dX1_init_104 rfl (lv_at hl 1 rfl) ?_
  refine N_get cx hK (ci := 0) (N := 15) (v := .ref (s.heap.size + 0)) (q := 108) 1 0 dX1_init_105 fRX1_11 rfl hB rfl rfl rfl ?_
  refine lv_iload_n cx.1 cx.2.1 dX1_init_108 rfl (lv_at hl 0 rfl) ?_
  refine lv_aload_n cx.1 cx.2.1 dX1_init_109 rfl (lv_at hl 1 rfl) ?_
  refine N_get cx hK (ci := 0) (N := 15) (v := .int 8) (q := 113) 10 0 dX1_init_110 fRX1_37 rfl hB rfl rfl rfl ?_
  refine lv_bipush cx.1 cx.2.1 dX1_init_113 (v := 16) rfl ?_
  refine lv_ior cx.1 cx.2.1 dX1_init_115 ?_
  refine lv_bipush cx.1 cx.2.1 dX1_init_116 (v := 32) rfl ?_
  refine lv_ior cx.1 cx.2.1 dX1_init_118 ?_
  refine N_iast cx hK (q := 120) (N := 112) (f' := (fun j => if j < 6 then 56 else 0)) 1 dX1_init_119 hB rfl (by unfold vp_in; decide) hz9 hlo n_up5 rfl (fun H locs hB hlo => ?_)
  have hB : hb s.heap H 7 [(h0, n_at D 0 15 (vp_V [.ref hg, .ref (s.heap.size + 0), .ref (s.heap.size + 1), .ref (s.heap.size + 2), .ref (s.heap.size + 3), .ref (s.heap.size + 4), .ref (s.heap.size + 5), .ref (s.heap.size + 6), .int 0, .int (3), .int (8), .int (4), .int 0, .int (6), .int 0])), (s.heap.size + 0, n_ar aI 112 (fun j => if j < 6 then 56 else 0)), (s.heap.size + 1, n_ar aI 256 (fun _ => 0)), (s.heap.size + 2, n_ar aI 48 (fun _ => -1)), (s.heap.size + 3, n_ar aI 48 (fun _ => 0)), (s.heap.size + 4, n_ar aI 6 (fun _ => 0)), (s.heap.size + 5, n_ar aI 6 (fun _ => 0)), (s.heap.size + 6, n_ar aI 6 (fun _ => 0))] := hB
  refine lv_iinc cx.1 cx.2.1 (k := 0) (v := 6) dX1_init_120 hl rfl rfl (by decide) (lv' := [(2, .int 6), (0, .ref h0), (1, .ref hg)]) rfl (fun la hl => ?_)
  refine lv_goto cx.1 cx.2.1 dX1_init_123 (tgt := 98) rfl ?_
  refine lv_iload_n cx.1 cx.2.1 dX1_init_98 rfl (lv_at hl 0 rfl) ?_
  refine lv_bipush cx.1 cx.2.1 dX1_init_99 (v := 8) rfl ?_
  refine lv_icmp_ge cx.1 cx.2.1 dX1_init_101 (tgt := 126) rfl (fun hc => absurd hc (by decide)) (fun _ => ?_)
  refine lv_aload_n cx.1 cx.2.1 dX1_init_104 rfl (lv_at hl 1 rfl) ?_
  refine N_get cx hK (ci := 0) (N := 15) (v := .ref (s.heap.size + 0)) (q := 108) 1 0 dX1_init_105 fRX1_11 rfl hB rfl rfl rfl ?_
  refine lv_iload_n cx.1 cx.2.1 dX1_init_108 rfl (lv_at hl 0 rfl) ?_
  refine lv_aload_n cx.1 cx.2.1 dX1_init_109 rfl (lv_at hl 1 rfl) ?_
  refine N_get cx hK (ci := 0) (N := 15) (v := .int 8) (q := 113) 10 0 dX1_init_110 fRX1_37 rfl hB rfl rfl rfl ?_
  refine lv_bipush cx.1 cx.2.1 dX1_init_113 (v := 16) rfl ?_
  refine lv_ior cx.1 cx.2.1 dX1_init_115 ?_
  refine lv_bipush cx.1 cx.2.1 dX1_init_116 (v := 32) rfl ?_
  refine lv_ior cx.1 cx.2.1 dX1_init_118 ?_
  refine N_iast cx hK (q := 120) (N := 112) (f' := (fun j => if j < 7 then 56 else 0)) 1 dX1_init_119 hB rfl (by unfold vp_in; decide) hz9 hlo n_up6 rfl (fun H locs hB hlo => ?_)
  have hB : hb s.heap H 7 [(h0, n_at D 0 15 (vp_V [.ref hg, .ref (s.heap.size + 0), .ref (s.heap.size + 1), .ref (s.heap.size + 2), .ref (s.heap.size + 3), .ref (s.heap.size + 4), .ref (s.heap.size + 5), .ref (s.heap.size + 6), .int 0, .int (3), .int (8), .int (4), .int 0, .int (6), .int 0])), (s.heap.size + 0, n_ar aI 112 (fun j => if j < 7 then 56 else 0)), (s.heap.size + 1, n_ar aI 256 (fun _ => 0)), (s.heap.size + 2, n_ar aI 48 (fun _ => -1)), (s.heap.size + 3, n_ar aI 48 (fun _ => 0)), (s.heap.size + 4, n_ar aI 6 (fun _ => 0)), (s.heap.size + 5, n_ar aI 6 (fun _ => 0)), (s.heap.size + 6, n_ar aI 6 (fun _ => 0))] := hB
  refine lv_iinc cx.1 cx.2.1 (k := 0) (v := 7) dX1_init_120 hl rfl rfl (by decide) (lv' := [(2, .int 7), (0, .ref h0), (1, .ref hg)]) rfl (fun la hl => ?_)
  refine lv_goto cx.1 cx.2.1 dX1_init_123 (tgt := 98) rfl ?_
  refine lv_iload_n cx.1 cx.2.1 dX1_init_98 rfl (lv_at hl 0 rfl) ?_
  refine lv_bipush cx.1 cx.2.1 dX1_init_99 (v := 8) rfl ?_
  refine lv_icmp_ge cx.1 cx.2.1 dX1_init_101 (tgt := 126) rfl (fun hc => absurd hc (by decide)) (fun _ => ?_)
  refine lv_aload_n cx.1 cx.2.1 dX1_init_104 rfl (lv_at hl 1 rfl) ?_
  refine N_get cx hK (ci := 0) (N := 15) (v := .ref (s.heap.size + 0)) (q := 108) 1 0 dX1_init_105 fRX1_11 rfl hB rfl rfl rfl ?_
  refine lv_iload_n cx.1 cx.2.1 dX1_init_108 rfl (lv_at hl 0 rfl) ?_
  refine lv_aload_n cx.1 cx.2.1 dX1_init_109 rfl (lv_at hl 1 rfl) ?_
  refine N_get cx hK (ci := 0) (N := 15) (v := .int 8) (q := 113) 10 0 dX1_init_110 fRX1_37 rfl hB rfl rfl rfl ?_
  refine lv_bipush cx.1 cx.2.1 dX1_init_113 (v := 16) rfl ?_
  refine lv_ior cx.1 cx.2.1 dX1_init_115 ?_
  refine lv_bipush cx.1 cx.2.1 dX1_init_116 (v := 32) rfl ?_
  refine lv_ior cx.1 cx.2.1 dX1_init_118 ?_
  refine N_iast cx hK (q := 120) (N := 112) (f' := (fun j => if j < 8 then 56 else 0)) 1 dX1_init_119 hB rfl (by unfold vp_in; decide) hz9 hlo n_up7 rfl (fun H locs hB hlo => ?_)
  have hB : hb s.heap H 7 [(h0, n_at D 0 15 (vp_V [.ref hg, .ref (s.heap.size + 0), .ref (s.heap.size + 1), .ref (s.heap.size + 2), .ref (s.heap.size + 3), .ref (s.heap.size + 4), .ref (s.heap.size + 5), .ref (s.heap.size + 6), .int 0, .int (3), .int (8), .int (4), .int 0, .int (6), .int 0])), (s.heap.size + 0, n_ar aI 112 (fun j => if j < 8 then 56 else 0)), (s.heap.size + 1, n_ar aI 256 (fun _ => 0)), (s.heap.size + 2, n_ar aI 48 (fun _ => -1)), (s.heap.size + 3, n_ar aI 48 (fun _ => 0)), (s.heap.size + 4, n_ar aI 6 (fun _ => 0)), (s.heap.size + 5, n_ar aI 6 (fun _ => 0)), (s.heap.size + 6, n_ar aI 6 (fun _ => 0))] := hB
  refine lv_iinc cx.1 cx.2.1 (k := 0) (v := 8) dX1_init_120 hl rfl rfl (by decide) (lv' := [(2, .int 8), (0, .ref h0), (1, .ref hg)]) rfl (fun la hl => ?_)
  refine lv_goto cx.1 cx.2.1 dX1_init_123 (tgt := 98) rfl ?_
  refine lv_iload_n cx.1 cx.2.1 dX1_init_98 rfl (lv_at hl 0 rfl) ?_
  refine lv_bipush cx.1 cx.2.1 dX1_init_99 (v := 8) rfl ?_
  refine lv_icmp_ge cx.1 cx.2.1 dX1_init_101 (tgt := 126) rfl (fun _ => ?_) (fun hc => absurd (by decide) hc)
  have hlocks := cx.2.2.2.2.2.2
  exact W.vret cx.1 cx.2.1 cx.2.2.1 (fun t ht hW => ⟨rfl, by rw [ht]; exact hB⟩) hlo dX1_init_126
theorem n_def1 : ∀ j, j < 15 → defaultValue (tyX5 j) = vp_V [.null, .null, .null, .null, .null, .null, .null, .null, .null, .null, .null, .int 0, .int 0, .int 0, .int 0] j := by decide +kernel
theorem cb_X5_init : j_CB yX5_init cX5_init 1 none 0 := ⟨by decide +kernel, j_in 145 (by decide +kernel) (by decide +kernel), j_in 109 (by decide +kernel) (by decide +kernel), by decide +kernel, by decide +kernel, by decide +kernel⟩
theorem ff_2_0 : j_FF RX6 2 0 (.object "CountedTokens$Log") := ⟨RX6, TX6, 3, tyX6, rfl, tyX6_ok, nmX6, rfl, rfl, by decide +kernel⟩
theorem n_def0 : ∀ j, j < 15 → defaultValue (tyX1 j) = vp_V [.null, .null, .null, .null, .null, .null, .null, .null, .int 0, .int 0, .int 0, .int 0, .int 0, .int 0, .int 0] j := by decide +kernel
theorem cb_X1_init : j_CB yX1_init cX1_init 3 none 1 := ⟨by decide +kernel, j_in 219 (by decide +kernel) (by decide +kernel), j_in 110 (by decide +kernel) (by decide +kernel), by decide +kernel, by decide +kernel, by decide +kernel⟩
theorem ff_2_1 : j_FF RX6 2 1 (.object "CountedTokens$Caches") := ⟨RX6, TX6, 3, tyX6, rfl, tyX6_ok, nmX6, rfl, rfl, by decide +kernel⟩
theorem n_def4 : ∀ j, j < 8 → defaultValue (tyX9 j) = vp_V [.null, .null, .null, .null, .null, .int 0, .int 0, .int 0] j := by decide +kernel
theorem cb_X9_init : j_CB yX9_init cX9_init 1 none 0 := ⟨by decide +kernel, j_in 290 (by decide +kernel) (by decide +kernel), j_in 112 (by decide +kernel) (by decide +kernel), by decide +kernel, by decide +kernel, by decide +kernel⟩
theorem ff_2_2 : j_FF RX6 2 2 (.object "CountedTokens$Script") := ⟨RX6, TX6, 3, tyX6, rfl, tyX6_ok, nmX6, rfl, rfl, by decide +kernel⟩
theorem dX6_init_0 : decode cX6_init 0 = .ok (.aload_n 0, 1) := by decide +kernel
theorem dX6_init_1 : decode cX6_init 1 = .ok (.invokespecial 3, 3) := by decide +kernel
theorem dX6_init_4 : decode cX6_init 4 = .ok (.aload_n 0, 1) := by decide +kernel
theorem dX6_init_5 : decode cX6_init 5 = .ok (.new 9, 3) := by decide +kernel
theorem dX6_init_8 : decode cX6_init 8 = .ok (.dup, 1) := by decide +kernel
theorem dX6_init_9 : decode cX6_init 9 = .ok (.invokespecial 11, 3) := by decide +kernel
theorem dX6_init_12 : decode cX6_init 12 = .ok (.putfield 12, 3) := by decide +kernel
theorem dX6_init_15 : decode cX6_init 15 = .ok (.aload_n 0, 1) := by decide +kernel
theorem dX6_init_16 : decode cX6_init 16 = .ok (.new 18, 3) := by decide +kernel
theorem dX6_init_19 : decode cX6_init 19 = .ok (.dup, 1) := by decide +kernel
theorem dX6_init_20 : decode cX6_init 20 = .ok (.aload_n 0, 1) := by decide +kernel
theorem dX6_init_21 : decode cX6_init 21 = .ok (.getfield 12, 3) := by decide +kernel
theorem dX6_init_24 : decode cX6_init 24 = .ok (.invokespecial 20, 3) := by decide +kernel
theorem dX6_init_27 : decode cX6_init 27 = .ok (.putfield 23, 3) := by decide +kernel
theorem dX6_init_30 : decode cX6_init 30 = .ok (.aload_n 0, 1) := by decide +kernel
theorem dX6_init_31 : decode cX6_init 31 = .ok (.new 27, 3) := by decide +kernel
theorem dX6_init_34 : decode cX6_init 34 = .ok (.dup, 1) := by decide +kernel
theorem dX6_init_35 : decode cX6_init 35 = .ok (.invokespecial 29, 3) := by decide +kernel
theorem dX6_init_38 : decode cX6_init 38 = .ok (.putfield 30, 3) := by decide +kernel
theorem dX6_init_41 : decode cX6_init 41 = .ok (.return_, 1) := by decide +kernel
set_option maxRecDepth 100000 in
set_option maxHeartbeats 4000000 in
theorem c_X6_init (l : Launch) (D : va_G) (aI aB : ClassId) (z h0 : Nat) : Met l yX6_init (Cond.code yX6_init cX6_init 1 none :: j_ws) { frames := 3, cells := 26, slots := 2405, locals := 120 } (n_Pc D aI aB z h0 2 3 (vp_V [.null, .null, .null]) [.ref h0]) (n_Q 26 (fun sz => [(h0, n_at D 2 3 (vp_V [.ref (sz + 0), .ref (sz + 12), .ref (sz + 20)])), (sz + 0, n_at D 1 15 (vp_V [.ref (sz + 1), .ref (sz + 2), .ref (sz + 3), .ref (sz + 4), .ref (sz + 5), .ref (sz + 6), .ref (sz + 7), .ref (sz + 8), .ref (sz + 9), .ref (sz + 10), .ref (sz + 11), .int 0, .int 0, .int 0, .int 0])), (sz + 1, n_ar aI 100 (fun _ => 0)), (sz + 2, n_ar aI 49 (fun _ => 0)), (sz + 3, n_ar aI 49 (fun _ => 0)), (sz + 4, n_ar aI 49 (fun _ => 0)), (sz + 5, n_ar aI 360 (fun _ => 0)), (sz + 6, n_ar aI 6 (fun _ => 0)), (sz + 7, n_ar aI 6 (fun _ => 0)), (sz + 8, n_ar aI 6 (fun _ => 0)), (sz + 9, n_ar aI 6 (fun _ => 0)), (sz + 10, n_ar aI 6 (fun _ => 0)), (sz + 11, n_ar aI 6 (fun _ => 0)), (sz + 12, n_at D 0 15 (vp_V [.ref (sz + 0), .ref (sz + 13), .ref (sz + 14), .ref (sz + 15), .ref (sz + 16), .ref (sz + 17), .ref (sz + 18), .ref (sz + 19), .int 0, .int (3), .int (8), .int (4), .int 0, .int (6), .int 0])), (sz + 13, n_ar aI 112 (fun j => if j < 8 then 56 else 0)), (sz + 14, n_ar aI 256 (fun _ => 0)), (sz + 15, n_ar aI 48 (fun _ => -1)), (sz + 16, n_ar aI 48 (fun _ => 0)), (sz + 17, n_ar aI 6 (fun _ => 0)), (sz + 18, n_ar aI 6 (fun _ => 0)), (sz + 19, n_ar aI 6 (fun _ => 0)), (sz + 20, n_at D 4 8 (vp_V [.ref (sz + 21), .ref (sz + 22), .ref (sz + 23), .ref (sz + 24), .ref (sz + 25), .int 0, .int 0, .int 0])), (sz + 21, n_ar aI 1200 (fun _ => 0)), (sz + 22, n_ar aI 6 (fun _ => 0)), (sz + 23, n_ar aI 6 (fun _ => 0)), (sz + 24, n_ar aI 6 (fun _ => 0)), (sz + 25, n_ar aI 24 (fun _ => 0))])) 26 2405 (fun q => z ≤ q) := by
  refine Met.ofW (cc := cX6_init) (maxL := 1) (ret := none) (by decide +kernel) rfl ?_
  intro p e s m args below meth c s₁ B hml hv
  obtain ⟨rfl, hK, hraw, hz, hN⟩ := hv
  have hts := atoms_spec (ws := Cond.code yX6_init cX6_init 1 none :: j_ws) B.pre
  have cx : j_Cx yX6_init cX6_init 1 none p s m _ meth c := ⟨B.exec, B.bytes, B.returns, hml, fun w hw => hts w (List.mem_cons_of_mem _ hw), findClass_of_methodNamed B.named, B.notSynchronized⟩
  have hin : meth.name = "<init>" := (name_of_methodNamed B.named B.method).1
  have hl := lv_entry ([.ref h0]) (n := 1) (Nat.le_of_ble_eq_true rfl)
  rw [lg_entry_eq]
  generalize (lg_sl ([.ref h0]) ++ List.replicate (1 - (lg_sl ([.ref h0])).length) Slot.unset).toArray = la at hl ⊢
  have hl : lv_has la 1 [(0, .ref h0)] := hl
  have hB := hb.one hraw
  have hlo : ∀ q ∈ ([] : List Loc), z ≤ q.base := fun q hq => by cases hq
  have hz9 : ∀ {k : Nat}, z ≤ s.heap.size + k := fun {k} => by
    obtain ⟨c9, hc9, -⟩ := hraw
    have := (Array.getElem?_eq_some_iff.mp hc9).1
    omega
  refine lv_aload_n cx.1 cx.2.1 dX6_init_0 rfl (lv_at hl 0 rfl) ?_
  refine W.objInit cx.1 cx.2.1 cx.2.2.2.2.2.1 (cx.2.2.2.2.1 _ (j_in 140 (by decide +kernel) (by decide +kernel))) (cx.2.2.2.2.1 _ w_oi) (cx.2.2.2.2.1 _ w_oc) rfl (by rw [hml]; exact hl.1) rfl dX6_init_1 (Nat.le_of_ble_eq_true rfl) (Nat.le_of_ble_eq_true rfl) ?_
  refine W.eq (g2 := F0 m 4 la []) rfl ?_
  refine lv_aload_n cx.1 cx.2.1 dX6_init_4 rfl (lv_at hl 0 rfl) ?_
  refine N_new cx hK (C := RX5) (T := TX5) (N := 15) (ci := 1) (V := (vp_V [.null, .null, .null, .null, .null, .null, .null, .null, .null, .null, .null, .int 0, .int 0, .int 0, .int 0])) (q := 8) ws_in1 tyX5 tyX5_ok (j_in 141 (by decide +kernel) (by decide +kernel)) (j_in 142 (by decide +kernel) (by decide +kernel)) (j_in 109 (by decide +kernel) (by decide +kernel)) rfl (n_def1) dX6_init_5 (Nat.le_of_ble_eq_true rfl) (Nat.le_of_ble_eq_true rfl) hB rfl (fun H hB => ?_)
  have hB : hb s.heap H 1 [(h0, n_at D 2 3 (vp_V [.null, .null, .null])), (s.heap.size + 0, n_at D 1 15 (vp_V [.null, .null, .null, .null, .null, .null, .null, .null, .null, .null, .null, .int 0, .int 0, .int 0, .int 0]))] := hB
  refine W.eq (g2 := F0 m 8 la [.ref (s.heap.size + 0), .ref h0]) rfl ?_
  refine W.widen (k := 1) (n := 15) (Nat.le_of_ble_eq_true rfl) (Nat.le_of_ble_eq_true rfl) ?_
  refine lv_dup cx.1 cx.2.1 dX6_init_8 rfl ?_
  refine N_ctor cx hK hN (S' := n_at D 1 15 (vp_V [.ref (s.heap.size + 1), .ref (s.heap.size + 2), .ref (s.heap.size + 3), .ref (s.heap.size + 4), .ref (s.heap.size + 5), .ref (s.heap.size + 6), .ref (s.heap.size + 7), .ref (s.heap.size + 8), .ref (s.heap.size + 9), .ref (s.heap.size + 10), .ref (s.heap.size + 11), .int 0, .int 0, .int 0, .int 0])) (P2 := [(s.heap.size + 1, n_ar aI 100 (fun _ => 0)), (s.heap.size + 2, n_ar aI 49 (fun _ => 0)), (s.heap.size + 3, n_ar aI 49 (fun _ => 0)), (s.heap.size + 4, n_ar aI 49 (fun _ => 0)), (s.heap.size + 5, n_ar aI 360 (fun _ => 0)), (s.heap.size + 6, n_ar aI 6 (fun _ => 0)), (s.heap.size + 7, n_ar aI 6 (fun _ => 0)), (s.heap.size + 8, n_ar aI 6 (fun _ => 0)), (s.heap.size + 9, n_ar aI 6 (fun _ => 0)), (s.heap.size + 10, n_ar aI 6 (fun _ => 0)), (s.heap.size + 11, n_ar aI 6 (fun _ => 0))]) (q := 12) 1 (c_X5_init l D aI aB z (s.heap.size + 0) ) cb_X5_init rfl (j_in 144 (by decide +kernel) (by decide +kernel)) (Or.inr ⟨RX11, hN _ (List.mem_of_getElem? (i := 0) rfl)⟩) dX6_init_9 rfl hl.1 (Nat.le_of_ble_eq_true rfl) ⟨Nat.le_of_ble_eq_true rfl, Nat.le_of_ble_eq_true rfl⟩ ⟨Nat.le_of_ble_eq_true rfl, Nat.le_of_ble_eq_true rfl⟩ hB rfl hz9 rfl (by simp <;> omega) hlo rfl (fun H locs hB hlo => ?_)
  have hB : hb s.heap H 12 [(h0, n_at D 2 3 (vp_V [.null, .null, .null])), (s.heap.size + 0, n_at D 1 15 (vp_V [.ref (s.heap.size + 1), .ref (s.heap.size + 2), .ref (s.heap.size + 3), .ref (s.heap.size + 4), .ref (s.heap.size + 5), .ref (s.heap.size + 6), .ref (s.heap.size + 7), .ref (s.heap.size + 8), .ref (s.heap.size + 9), .ref (s.heap.size + 10), .ref (s.heap.size + 11), .int 0, .int 0, .int 0, .int 0])), (s.heap.size + 1, n_ar aI 100 (fun _ => 0)), (s.heap.size + 2, n_ar aI 49 (fun _ => 0)), (s.heap.size + 3, n_ar aI 49 (fun _ => 0)), (s.heap.size + 4, n_ar aI 49 (fun _ => 0)), (s.heap.size + 5, n_ar aI 360 (fun _ => 0)), (s.heap.size + 6, n_ar aI 6 (fun _ => 0)), (s.heap.size + 7, n_ar aI 6 (fun _ => 0)), (s.heap.size + 8, n_ar aI 6 (fun _ => 0)), (s.heap.size + 9, n_ar aI 6 (fun _ => 0)), (s.heap.size + 10, n_ar aI 6 (fun _ => 0)), (s.heap.size + 11, n_ar aI 6 (fun _ => 0))] := hB
  refine W.eq (g2 := F0 m 12 la [.ref (s.heap.size + 0), .ref h0]) rfl ?_
  refine W.widen (k := 12) (n := 658) (Nat.le_of_ble_eq_true rfl) (Nat.le_of_ble_eq_true rfl) ?_
  refine N_put cx hK (ci := 2) (N := 3) (V' := (vp_V [.ref (s.heap.size + 0), .null, .null])) (q := 15) 0 0 dX6_init_12 fRX6_12 (Or.inr ⟨ff_2_0, hin⟩) rfl rfl rfl hB rfl hz hlo (n_setV (Nat.le_of_ble_eq_true rfl) _) rfl (fun H locs hB hlo => ?_)
  have hB : hb s.heap H 12 [(h0, n_at D 2 3 (vp_V [.ref (s.heap.size + 0), .null, .null])), (s.heap.size + 0, n_at D 1 15 (vp_V [.ref (s.heap.size + 1), .ref (s.heap.size + 2), .ref (s.heap.size + 3), .ref (s.heap.size + 4), .ref (s.heap.size + 5), .ref (s.heap.size + 6), .ref (s.heap.size + 7), .ref (s.heap.size + 8), .ref (s.heap.size + 9), .ref (s.heap.size + 10), .ref (s.heap.size + 11), .int 0, .int 0, .int 0, .int 0])), (s.heap.size + 1, n_ar aI 100 (fun _ => 0)), (s.heap.size + 2, n_ar aI 49 (fun _ => 0)), (s.heap.size + 3, n_ar aI 49 (fun _ => 0)), (s.heap.size + 4, n_ar aI 49 (fun _ => 0)), (s.heap.size + 5, n_ar aI 360 (fun _ => 0)), (s.heap.size + 6, n_ar aI 6 (fun _ => 0)), (s.heap.size + 7, n_ar aI 6 (fun _ => 0)), (s.heap.size + 8, n_ar aI 6 (fun _ => 0)), (s.heap.size + 9, n_ar aI 6 (fun _ => 0)), (s.heap.size + 10, n_ar aI 6 (fun _ => 0)), (s.heap.size + 11, n_ar aI 6 (fun _ => 0))] := hB
  refine lv_aload_n cx.1 cx.2.1 dX6_init_15 rfl (lv_at hl 0 rfl) ?_
  refine N_new cx hK (C := RX1) (T := TX1) (N := 15) (ci := 0) (V := (vp_V [.null, .null, .null, .null, .null, .null, .null, .null, .int 0, .int 0, .int 0, .int 0, .int 0, .int 0, .int 0])) (q := 19) ws_in0 tyX1 tyX1_ok (j_in 215 (by decide +kernel) (by decide +kernel)) (j_in 216 (by decide +kernel) (by decide +kernel)) (j_in 110 (by decide +kernel) (by decide +kernel)) rfl (n_def0) dX6_init_16 (Nat.le_of_ble_eq_true rfl) (Nat.le_of_ble_eq_true rfl) hB rfl (fun H hB => ?_)
  have hB : hb s.heap H 13 [(h0, n_at D 2 3 (vp_V [.ref (s.heap.size + 0), .null, .null])), (s.heap.size + 0, n_at D 1 15 (vp_V [.ref (s.heap.size + 1), .ref (s.heap.size + 2), .ref (s.heap.size + 3), .ref (s.heap.size + 4), .ref (s.heap.size + 5), .ref (s.heap.size + 6), .ref (s.heap.size + 7), .ref (s.heap.size + 8), .ref (s.heap.size + 9), .ref (s.heap.size + 10), .ref (s.heap.size + 11), .int 0, .int 0, .int 0, .int 0])), (s.heap.size + 1, n_ar aI 100 (fun _ => 0)), (s.heap.size + 2, n_ar aI 49 (fun _ => 0)), (s.heap.size + 3, n_ar aI 49 (fun _ => 0)), (s.heap.size + 4, n_ar aI 49 (fun _ => 0)), (s.heap.size + 5, n_ar aI 360 (fun _ => 0)), (s.heap.size + 6, n_ar aI 6 (fun _ => 0)), (s.heap.size + 7, n_ar aI 6 (fun _ => 0)), (s.heap.size + 8, n_ar aI 6 (fun _ => 0)), (s.heap.size + 9, n_ar aI 6 (fun _ => 0)), (s.heap.size + 10, n_ar aI 6 (fun _ => 0)), (s.heap.size + 11, n_ar aI 6 (fun _ => 0)), (s.heap.size + 12, n_at D 0 15 (vp_V [.null, .null, .null, .null, .null, .null, .null, .null, .int 0, .int 0, .int 0, .int 0, .int 0, .int 0, .int 0]))] := hB
  refine W.eq (g2 := F0 m 19 la [.ref (s.heap.size + 12), .ref h0]) rfl ?_
  refine W.widen (k := 13) (n := 673) (Nat.le_of_ble_eq_true rfl) (Nat.le_of_ble_eq_true rfl) ?_
  refine lv_dup cx.1 cx.2.1 dX6_init_19 rfl ?_
  refine lv_aload_n cx.1 cx.2.1 dX6_init_20 rfl (lv_at hl 0 rfl) ?_
  refine N_get cx hK (ci := 2) (N := 3) (v := .ref (s.heap.size + 0)) (q := 24) 0 0 dX6_init_21 fRX6_12 rfl hB rfl rfl rfl ?_
  refine N_ctor cx hK hN (S' := n_at D 0 15 (vp_V [.ref (s.heap.size + 0), .ref (s.heap.size + 13), .ref (s.heap.size + 14), .ref (s.heap.size + 15), .ref (s.heap.size + 16), .ref (s.heap.size + 17), .ref (s.heap.size + 18), .ref (s.heap.size + 19), .int 0, .int (3), .int (8), .int (4), .int 0, .int (6), .int 0])) (P2 := [(s.heap.size + 13, n_ar aI 112 (fun j => if j < 8 then 56 else 0)), (s.heap.size + 14, n_ar aI 256 (fun _ => 0)), (s.heap.size + 15, n_ar aI 48 (fun _ => -1)), (s.heap.size + 16, n_ar aI 48 (fun _ => 0)), (s.heap.size + 17, n_ar aI 6 (fun _ => 0)), (s.heap.size + 18, n_ar aI 6 (fun _ => 0)), (s.heap.size + 19, n_ar aI 6 (fun _ => 0))]) (q := 27) 13 (c_X1_init l D aI aB z (s.heap.size + 12) ((s.heap.size + 0)) ) cb_X1_init rfl (j_in 218 (by decide +kernel) (by decide +kernel)) (Or.inl (j_in 217 (by decide +kernel) (by decide +kernel))) dX6_init_24 rfl hl.1 (Nat.le_of_ble_eq_true rfl) ⟨Nat.le_of_ble_eq_true rfl, Nat.le_of_ble_eq_true rfl⟩ ⟨Nat.le_of_ble_eq_true rfl, Nat.le_of_ble_eq_true rfl⟩ hB rfl hz9 rfl (by simp <;> omega) hlo rfl (fun H locs hB hlo => ?_)
  have hB : hb s.heap H 20 [(h0, n_at D 2 3 (vp_V [.ref (s.heap.size + 0), .null, .null])), (s.heap.size + 0, n_at D 1 15 (vp_V [.ref (s.heap.size + 1), .ref (s.heap.size + 2), .ref (s.heap.size + 3), .ref (s.heap.size + 4), .ref (s.heap.size + 5), .ref (s.heap.size + 6), .ref (s.heap.size + 7), .ref (s.heap.size + 8), .ref (s.heap.size + 9), .ref (s.heap.size + 10), .ref (s.heap.size + 11), .int 0, .int 0, .int 0, .int 0])), (s.heap.size + 1, n_ar aI 100 (fun _ => 0)), (s.heap.size + 2, n_ar aI 49 (fun _ => 0)), (s.heap.size + 3, n_ar aI 49 (fun _ => 0)), (s.heap.size + 4, n_ar aI 49 (fun _ => 0)), (s.heap.size + 5, n_ar aI 360 (fun _ => 0)), (s.heap.size + 6, n_ar aI 6 (fun _ => 0)), (s.heap.size + 7, n_ar aI 6 (fun _ => 0)), (s.heap.size + 8, n_ar aI 6 (fun _ => 0)), (s.heap.size + 9, n_ar aI 6 (fun _ => 0)), (s.heap.size + 10, n_ar aI 6 (fun _ => 0)), (s.heap.size + 11, n_ar aI 6 (fun _ => 0)), (s.heap.size + 12, n_at D 0 15 (vp_V [.ref (s.heap.size + 0), .ref (s.heap.size + 13), .ref (s.heap.size + 14), .ref (s.heap.size + 15), .ref (s.heap.size + 16), .ref (s.heap.size + 17), .ref (s.heap.size + 18), .ref (s.heap.size + 19), .int 0, .int (3), .int (8), .int (4), .int 0, .int (6), .int 0])), (s.heap.size + 13, n_ar aI 112 (fun j => if j < 8 then 56 else 0)), (s.heap.size + 14, n_ar aI 256 (fun _ => 0)), (s.heap.size + 15, n_ar aI 48 (fun _ => -1)), (s.heap.size + 16, n_ar aI 48 (fun _ => 0)), (s.heap.size + 17, n_ar aI 6 (fun _ => 0)), (s.heap.size + 18, n_ar aI 6 (fun _ => 0)), (s.heap.size + 19, n_ar aI 6 (fun _ => 0))] := hB
  refine W.eq (g2 := F0 m 27 la [.ref (s.heap.size + 12), .ref h0]) rfl ?_
  refine W.widen (k := 20) (n := 1155) (Nat.le_of_ble_eq_true rfl) (Nat.le_of_ble_eq_true rfl) ?_
  refine N_put cx hK (ci := 2) (N := 3) (V' := (vp_V [.ref (s.heap.size + 0), .ref (s.heap.size + 12), .null])) (q := 30) 1 0 dX6_init_27 fRX6_23 (Or.inr ⟨ff_2_1, hin⟩) rfl rfl rfl hB rfl hz hlo (n_setV (Nat.le_of_ble_eq_true rfl) _) rfl (fun H locs hB hlo => ?_)
  have hB : hb s.heap H 20 [(h0, n_at D 2 3 (vp_V [.ref (s.heap.size + 0), .ref (s.heap.size + 12), .null])), (s.heap.size + 0, n_at D 1 15 (vp_V [.ref (s.heap.size + 1), .ref (s.heap.size + 2), .ref (s.heap.size + 3), .ref (s.heap.size + 4), .ref (s.heap.size + 5), .ref (s.heap.size + 6), .ref (s.heap.size + 7), .ref (s.heap.size + 8), .ref (s.heap.size + 9), .ref (s.heap.size + 10), .ref (s.heap.size + 11), .int 0, .int 0, .int 0, .int 0])), (s.heap.size + 1, n_ar aI 100 (fun _ => 0)), (s.heap.size + 2, n_ar aI 49 (fun _ => 0)), (s.heap.size + 3, n_ar aI 49 (fun _ => 0)), (s.heap.size + 4, n_ar aI 49 (fun _ => 0)), (s.heap.size + 5, n_ar aI 360 (fun _ => 0)), (s.heap.size + 6, n_ar aI 6 (fun _ => 0)), (s.heap.size + 7, n_ar aI 6 (fun _ => 0)), (s.heap.size + 8, n_ar aI 6 (fun _ => 0)), (s.heap.size + 9, n_ar aI 6 (fun _ => 0)), (s.heap.size + 10, n_ar aI 6 (fun _ => 0)), (s.heap.size + 11, n_ar aI 6 (fun _ => 0)), (s.heap.size + 12, n_at D 0 15 (vp_V [.ref (s.heap.size + 0), .ref (s.heap.size + 13), .ref (s.heap.size + 14), .ref (s.heap.size + 15), .ref (s.heap.size + 16), .ref (s.heap.size + 17), .ref (s.heap.size + 18), .ref (s.heap.size + 19), .int 0, .int (3), .int (8), .int (4), .int 0, .int (6), .int 0])), (s.heap.size + 13, n_ar aI 112 (fun j => if j < 8 then 56 else 0)), (s.heap.size + 14, n_ar aI 256 (fun _ => 0)), (s.heap.size + 15, n_ar aI 48 (fun _ => -1)), (s.heap.size + 16, n_ar aI 48 (fun _ => 0)), (s.heap.size + 17, n_ar aI 6 (fun _ => 0)), (s.heap.size + 18, n_ar aI 6 (fun _ => 0)), (s.heap.size + 19, n_ar aI 6 (fun _ => 0))] := hB
  refine lv_aload_n cx.1 cx.2.1 dX6_init_30 rfl (lv_at hl 0 rfl) ?_
  refine N_new cx hK (C := RX9) (T := TX9) (N := 8) (ci := 4) (V := (vp_V [.null, .null, .null, .null, .null, .int 0, .int 0, .int 0])) (q := 34) ws_in4 tyX9 tyX9_ok (j_in 286 (by decide +kernel) (by decide +kernel)) (j_in 287 (by decide +kernel) (by decide +kernel)) (j_in 112 (by decide +kernel) (by decide +kernel)) rfl (n_def4) dX6_init_31 (Nat.le_of_ble_eq_true rfl) (Nat.le_of_ble_eq_true rfl) hB rfl (fun H hB => ?_)
  have hB : hb s.heap H 21 [(h0, n_at D 2 3 (vp_V [.ref (s.heap.size + 0), .ref (s.heap.size + 12), .null])), (s.heap.size + 0, n_at D 1 15 (vp_V [.ref (s.heap.size + 1), .ref (s.heap.size + 2), .ref (s.heap.size + 3), .ref (s.heap.size + 4), .ref (s.heap.size + 5), .ref (s.heap.size + 6), .ref (s.heap.size + 7), .ref (s.heap.size + 8), .ref (s.heap.size + 9), .ref (s.heap.size + 10), .ref (s.heap.size + 11), .int 0, .int 0, .int 0, .int 0])), (s.heap.size + 1, n_ar aI 100 (fun _ => 0)), (s.heap.size + 2, n_ar aI 49 (fun _ => 0)), (s.heap.size + 3, n_ar aI 49 (fun _ => 0)), (s.heap.size + 4, n_ar aI 49 (fun _ => 0)), (s.heap.size + 5, n_ar aI 360 (fun _ => 0)), (s.heap.size + 6, n_ar aI 6 (fun _ => 0)), (s.heap.size + 7, n_ar aI 6 (fun _ => 0)), (s.heap.size + 8, n_ar aI 6 (fun _ => 0)), (s.heap.size + 9, n_ar aI 6 (fun _ => 0)), (s.heap.size + 10, n_ar aI 6 (fun _ => 0)), (s.heap.size + 11, n_ar aI 6 (fun _ => 0)), (s.heap.size + 12, n_at D 0 15 (vp_V [.ref (s.heap.size + 0), .ref (s.heap.size + 13), .ref (s.heap.size + 14), .ref (s.heap.size + 15), .ref (s.heap.size + 16), .ref (s.heap.size + 17), .ref (s.heap.size + 18), .ref (s.heap.size + 19), .int 0, .int (3), .int (8), .int (4), .int 0, .int (6), .int 0])), (s.heap.size + 13, n_ar aI 112 (fun j => if j < 8 then 56 else 0)), (s.heap.size + 14, n_ar aI 256 (fun _ => 0)), (s.heap.size + 15, n_ar aI 48 (fun _ => -1)), (s.heap.size + 16, n_ar aI 48 (fun _ => 0)), (s.heap.size + 17, n_ar aI 6 (fun _ => 0)), (s.heap.size + 18, n_ar aI 6 (fun _ => 0)), (s.heap.size + 19, n_ar aI 6 (fun _ => 0)), (s.heap.size + 20, n_at D 4 8 (vp_V [.null, .null, .null, .null, .null, .int 0, .int 0, .int 0]))] := hB
  refine W.eq (g2 := F0 m 34 la [.ref (s.heap.size + 20), .ref h0]) rfl ?_
  refine W.widen (k := 21) (n := 1163) (Nat.le_of_ble_eq_true rfl) (Nat.le_of_ble_eq_true rfl) ?_
  refine lv_dup cx.1 cx.2.1 dX6_init_34 rfl ?_
  refine N_ctor cx hK hN (S' := n_at D 4 8 (vp_V [.ref (s.heap.size + 21), .ref (s.heap.size + 22), .ref (s.heap.size + 23), .ref (s.heap.size + 24), .ref (s.heap.size + 25), .int 0, .int 0, .int 0])) (P2 := [(s.heap.size + 21, n_ar aI 1200 (fun _ => 0)), (s.heap.size + 22, n_ar aI 6 (fun _ => 0)), (s.heap.size + 23, n_ar aI 6 (fun _ => 0)), (s.heap.size + 24, n_ar aI 6 (fun _ => 0)), (s.heap.size + 25, n_ar aI 24 (fun _ => 0))]) (q := 38) 21 (c_X9_init l D aI aB z (s.heap.size + 20) ) cb_X9_init rfl (j_in 289 (by decide +kernel) (by decide +kernel)) (Or.inr ⟨RX11, hN _ (List.mem_of_getElem? (i := 1) rfl)⟩) dX6_init_35 rfl hl.1 (Nat.le_of_ble_eq_true rfl) ⟨Nat.le_of_ble_eq_true rfl, Nat.le_of_ble_eq_true rfl⟩ ⟨Nat.le_of_ble_eq_true rfl, Nat.le_of_ble_eq_true rfl⟩ hB rfl hz9 rfl (by simp <;> omega) hlo rfl (fun H locs hB hlo => ?_)
  have hB : hb s.heap H 26 [(h0, n_at D 2 3 (vp_V [.ref (s.heap.size + 0), .ref (s.heap.size + 12), .null])), (s.heap.size + 0, n_at D 1 15 (vp_V [.ref (s.heap.size + 1), .ref (s.heap.size + 2), .ref (s.heap.size + 3), .ref (s.heap.size + 4), .ref (s.heap.size + 5), .ref (s.heap.size + 6), .ref (s.heap.size + 7), .ref (s.heap.size + 8), .ref (s.heap.size + 9), .ref (s.heap.size + 10), .ref (s.heap.size + 11), .int 0, .int 0, .int 0, .int 0])), (s.heap.size + 1, n_ar aI 100 (fun _ => 0)), (s.heap.size + 2, n_ar aI 49 (fun _ => 0)), (s.heap.size + 3, n_ar aI 49 (fun _ => 0)), (s.heap.size + 4, n_ar aI 49 (fun _ => 0)), (s.heap.size + 5, n_ar aI 360 (fun _ => 0)), (s.heap.size + 6, n_ar aI 6 (fun _ => 0)), (s.heap.size + 7, n_ar aI 6 (fun _ => 0)), (s.heap.size + 8, n_ar aI 6 (fun _ => 0)), (s.heap.size + 9, n_ar aI 6 (fun _ => 0)), (s.heap.size + 10, n_ar aI 6 (fun _ => 0)), (s.heap.size + 11, n_ar aI 6 (fun _ => 0)), (s.heap.size + 12, n_at D 0 15 (vp_V [.ref (s.heap.size + 0), .ref (s.heap.size + 13), .ref (s.heap.size + 14), .ref (s.heap.size + 15), .ref (s.heap.size + 16), .ref (s.heap.size + 17), .ref (s.heap.size + 18), .ref (s.heap.size + 19), .int 0, .int (3), .int (8), .int (4), .int 0, .int (6), .int 0])), (s.heap.size + 13, n_ar aI 112 (fun j => if j < 8 then 56 else 0)), (s.heap.size + 14, n_ar aI 256 (fun _ => 0)), (s.heap.size + 15, n_ar aI 48 (fun _ => -1)), (s.heap.size + 16, n_ar aI 48 (fun _ => 0)), (s.heap.size + 17, n_ar aI 6 (fun _ => 0)), (s.heap.size + 18, n_ar aI 6 (fun _ => 0)), (s.heap.size + 19, n_ar aI 6 (fun _ => 0)), (s.heap.size + 20, n_at D 4 8 (vp_V [.ref (s.heap.size + 21), .ref (s.heap.size + 22), .ref (s.heap.size + 23), .ref (s.heap.size + 24), .ref (s.heap.size + 25), .int 0, .int 0, .int 0])), (s.heap.size + 21, n_ar aI 1200 (fun _ => 0)), (s.heap.size + 22, n_ar aI 6 (fun _ => 0)), (s.heap.size + 23, n_ar aI 6 (fun _ => 0)), (s.heap.size + 24, n_ar aI 6 (fun _ => 0)), (s.heap.size + 25, n_ar aI 24 (fun _ => 0))] := hB
  refine W.eq (g2 := F0 m 38 la [.ref (s.heap.size + 20), .ref h0]) rfl ?_
  refine W.widen (k := 26) (n := 2405) (Nat.le_of_ble_eq_true rfl) (Nat.le_of_ble_eq_true rfl) ?_
  refine N_put cx hK (ci := 2) (N := 3) (V' := (vp_V [.ref (s.heap.size + 0), .ref (s.heap.size + 12), .ref (s.heap.size + 20)])) (q := 41) 2 0 dX6_init_38 fRX6_30 (Or.inr ⟨ff_2_2, hin⟩) rfl rfl rfl hB rfl hz hlo (n_setV (Nat.le_of_ble_eq_true rfl) _) rfl (fun H locs hB hlo => ?_)
  have hB : hb s.heap H 26 [(h0, n_at D 2 3 (vp_V [.ref (s.heap.size + 0), .ref (s.heap.size + 12), .ref (s.heap.size + 20)])), (s.heap.size + 0, n_at D 1 15 (vp_V [.ref (s.heap.size + 1), .ref (s.heap.size + 2), .ref (s.heap.size + 3), .ref (s.heap.size + 4), .ref (s.heap.size + 5), .ref (s.heap.size + 6), .ref (s.heap.size + 7), .ref (s.heap.size + 8), .ref (s.heap.size + 9), .ref (s.heap.size + 10), .ref (s.heap.size + 11), .int 0, .int 0, .int 0, .int 0])), (s.heap.size + 1, n_ar aI 100 (fun _ => 0)), (s.heap.size + 2, n_ar aI 49 (fun _ => 0)), (s.heap.size + 3, n_ar aI 49 (fun _ => 0)), (s.heap.size + 4, n_ar aI 49 (fun _ => 0)), (s.heap.size + 5, n_ar aI 360 (fun _ => 0)), (s.heap.size + 6, n_ar aI 6 (fun _ => 0)), (s.heap.size + 7, n_ar aI 6 (fun _ => 0)), (s.heap.size + 8, n_ar aI 6 (fun _ => 0)), (s.heap.size + 9, n_ar aI 6 (fun _ => 0)), (s.heap.size + 10, n_ar aI 6 (fun _ => 0)), (s.heap.size + 11, n_ar aI 6 (fun _ => 0)), (s.heap.size + 12, n_at D 0 15 (vp_V [.ref (s.heap.size + 0), .ref (s.heap.size + 13), .ref (s.heap.size + 14), .ref (s.heap.size + 15), .ref (s.heap.size + 16), .ref (s.heap.size + 17), .ref (s.heap.size + 18), .ref (s.heap.size + 19), .int 0, .int (3), .int (8), .int (4), .int 0, .int (6), .int 0])), (s.heap.size + 13, n_ar aI 112 (fun j => if j < 8 then 56 else 0)), (s.heap.size + 14, n_ar aI 256 (fun _ => 0)), (s.heap.size + 15, n_ar aI 48 (fun _ => -1)), (s.heap.size + 16, n_ar aI 48 (fun _ => 0)), (s.heap.size + 17, n_ar aI 6 (fun _ => 0)), (s.heap.size + 18, n_ar aI 6 (fun _ => 0)), (s.heap.size + 19, n_ar aI 6 (fun _ => 0)), (s.heap.size + 20, n_at D 4 8 (vp_V [.ref (s.heap.size + 21), .ref (s.heap.size + 22), .ref (s.heap.size + 23), .ref (s.heap.size + 24), .ref (s.heap.size + 25), .int 0, .int 0, .int 0])), (s.heap.size + 21, n_ar aI 1200 (fun _ => 0)), (s.heap.size + 22, n_ar aI 6 (fun _ => 0)), (s.heap.size + 23, n_ar aI 6 (fun _ => 0)), (s.heap.size + 24, n_ar aI 6 (fun _ => 0)), (s.heap.size + 25, n_ar aI 24 (fun _ => 0))] := hB
  have hlocks := cx.2.2.2.2.2.2
  exact W.vret cx.1 cx.2.1 cx.2.2.1 (fun t ht hW => ⟨rfl, by rw [ht]; exact hB⟩) hlo dX6_init_41
theorem n_def2 : ∀ j, j < 3 → defaultValue (tyX6 j) = vp_V [.null, .null, .null] j := by decide +kernel
theorem cb_X6_init : j_CB yX6_init cX6_init 1 none 0 := ⟨by decide +kernel, j_in 139 (by decide +kernel) (by decide +kernel), j_in 108 (by decide +kernel) (by decide +kernel), by decide +kernel, by decide +kernel, by decide +kernel⟩
theorem ff_6_0 : j_FF RX11 6 0 (.object "CountedTokens$Machine") := ⟨RX11, TX11, 5, tyX11, rfl, tyX11_ok, nmX11, rfl, rfl, by decide +kernel⟩
theorem n_def3 : ∀ j, j < 13 → defaultValue (tyX8 j) = vp_V [.null, .null, .null, .null, .int 0, .int 0, .int 0, .int 0, .int 0, .int 0, .int 0, .int 0, .int 0] j := by decide +kernel
theorem cb_X8_init : j_CB yX8_init cX8_init 1 none 0 := ⟨by decide +kernel, j_in 346 (by decide +kernel) (by decide +kernel), j_in 113 (by decide +kernel) (by decide +kernel), by decide +kernel, by decide +kernel, by decide +kernel⟩
theorem ff_6_1 : j_FF RX11 6 1 (.object "CountedTokens$Reader") := ⟨RX11, TX11, 5, tyX11, rfl, tyX11_ok, nmX11, rfl, rfl, by decide +kernel⟩
theorem dX11_init_0 : decode cX11_init 0 = .ok (.aload_n 0, 1) := by decide +kernel
theorem dX11_init_1 : decode cX11_init 1 = .ok (.invokespecial 1, 3) := by decide +kernel
theorem dX11_init_4 : decode cX11_init 4 = .ok (.aload_n 0, 1) := by decide +kernel
theorem dX11_init_5 : decode cX11_init 5 = .ok (.new 7, 3) := by decide +kernel
theorem dX11_init_8 : decode cX11_init 8 = .ok (.dup, 1) := by decide +kernel
theorem dX11_init_9 : decode cX11_init 9 = .ok (.invokespecial 9, 3) := by decide +kernel
theorem dX11_init_12 : decode cX11_init 12 = .ok (.putfield 10, 3) := by decide +kernel
theorem dX11_init_15 : decode cX11_init 15 = .ok (.aload_n 0, 1) := by decide +kernel
theorem dX11_init_16 : decode cX11_init 16 = .ok (.new 16, 3) := by decide +kernel
theorem dX11_init_19 : decode cX11_init 19 = .ok (.dup, 1) := by decide +kernel
theorem dX11_init_20 : decode cX11_init 20 = .ok (.invokespecial 18, 3) := by decide +kernel
theorem dX11_init_23 : decode cX11_init 23 = .ok (.putfield 19, 3) := by decide +kernel
theorem dX11_init_26 : decode cX11_init 26 = .ok (.return_, 1) := by decide +kernel
set_option maxRecDepth 100000 in
set_option maxHeartbeats 4000000 in
theorem c_X11_init (l : Launch) (D : va_G) (aI aB : ClassId) (z h0 : Nat) : Met l yX11_init (Cond.code yX11_init cX11_init 1 none :: j_ws) { frames := 4, cells := 32, slots := 3027, locals := 160 } (n_Pc D aI aB z h0 6 5 (vp_V [.null, .null, .null, .null, .null]) [.ref h0]) (n_Q 32 (fun sz => [(h0, n_at D 6 5 (vp_V [.ref (sz + 0), .ref (sz + 27), .null, .null, .null])), (sz + 0, n_at D 2 3 (vp_V [.ref (sz + 1), .ref (sz + 13), .ref (sz + 21)])), (sz + 1, n_at D 1 15 (vp_V [.ref (sz + 2), .ref (sz + 3), .ref (sz + 4), .ref (sz + 5), .ref (sz + 6), .ref (sz + 7), .ref (sz + 8), .ref (sz + 9), .ref (sz + 10), .ref (sz + 11), .ref (sz + 12), .int 0, .int 0, .int 0, .int 0])), (sz + 2, n_ar aI 100 (fun _ => 0)), (sz + 3, n_ar aI 49 (fun _ => 0)), (sz + 4, n_ar aI 49 (fun _ => 0)), (sz + 5, n_ar aI 49 (fun _ => 0)), (sz + 6, n_ar aI 360 (fun _ => 0)), (sz + 7, n_ar aI 6 (fun _ => 0)), (sz + 8, n_ar aI 6 (fun _ => 0)), (sz + 9, n_ar aI 6 (fun _ => 0)), (sz + 10, n_ar aI 6 (fun _ => 0)), (sz + 11, n_ar aI 6 (fun _ => 0)), (sz + 12, n_ar aI 6 (fun _ => 0)), (sz + 13, n_at D 0 15 (vp_V [.ref (sz + 1), .ref (sz + 14), .ref (sz + 15), .ref (sz + 16), .ref (sz + 17), .ref (sz + 18), .ref (sz + 19), .ref (sz + 20), .int 0, .int (3), .int (8), .int (4), .int 0, .int (6), .int 0])), (sz + 14, n_ar aI 112 (fun j => if j < 8 then 56 else 0)), (sz + 15, n_ar aI 256 (fun _ => 0)), (sz + 16, n_ar aI 48 (fun _ => -1)), (sz + 17, n_ar aI 48 (fun _ => 0)), (sz + 18, n_ar aI 6 (fun _ => 0)), (sz + 19, n_ar aI 6 (fun _ => 0)), (sz + 20, n_ar aI 6 (fun _ => 0)), (sz + 21, n_at D 4 8 (vp_V [.ref (sz + 22), .ref (sz + 23), .ref (sz + 24), .ref (sz + 25), .ref (sz + 26), .int 0, .int 0, .int 0])), (sz + 22, n_ar aI 1200 (fun _ => 0)), (sz + 23, n_ar aI 6 (fun _ => 0)), (sz + 24, n_ar aI 6 (fun _ => 0)), (sz + 25, n_ar aI 6 (fun _ => 0)), (sz + 26, n_ar aI 24 (fun _ => 0)), (sz + 27, n_at D 3 13 (vp_V [.ref (sz + 28), .ref (sz + 29), .ref (sz + 30), .ref (sz + 31), .int 0, .int 0, .int (-1), .int 0, .int 0, .int 0, .int 0, .int 0, .int 0])), (sz + 28, n_ar aI 400 (fun _ => 0)), (sz + 29, n_ar aI 200 (fun _ => 0)), (sz + 30, n_ar aI 3 (fun _ => 0)), (sz + 31, n_ar aI 3 (fun _ => 0))])) 32 3027 (fun q => z ≤ q) := by
  refine Met.ofW (cc := cX11_init) (maxL := 1) (ret := none) (by decide +kernel) rfl ?_
  intro p e s m args below meth c s₁ B hml hv
  obtain ⟨rfl, hK, hraw, hz, hN⟩ := hv
  have hts := atoms_spec (ws := Cond.code yX11_init cX11_init 1 none :: j_ws) B.pre
  have cx : j_Cx yX11_init cX11_init 1 none p s m _ meth c := ⟨B.exec, B.bytes, B.returns, hml, fun w hw => hts w (List.mem_cons_of_mem _ hw), findClass_of_methodNamed B.named, B.notSynchronized⟩
  have hin : meth.name = "<init>" := (name_of_methodNamed B.named B.method).1
  have hl := lv_entry ([.ref h0]) (n := 1) (Nat.le_of_ble_eq_true rfl)
  rw [lg_entry_eq]
  generalize (lg_sl ([.ref h0]) ++ List.replicate (1 - (lg_sl ([.ref h0])).length) Slot.unset).toArray = la at hl ⊢
  have hl : lv_has la 1 [(0, .ref h0)] := hl
  have hB := hb.one hraw
  have hlo : ∀ q ∈ ([] : List Loc), z ≤ q.base := fun q hq => by cases hq
  have hz9 : ∀ {k : Nat}, z ≤ s.heap.size + k := fun {k} => by
    obtain ⟨c9, hc9, -⟩ := hraw
    have := (Array.getElem?_eq_some_iff.mp hc9).1
    omega
  refine lv_aload_n cx.1 cx.2.1 dX11_init_0 rfl (lv_at hl 0 rfl) ?_
  refine W.objInit cx.1 cx.2.1 cx.2.2.2.2.2.1 (cx.2.2.2.2.1 _ (j_in 132 (by decide +kernel) (by decide +kernel))) (cx.2.2.2.2.1 _ w_oi) (cx.2.2.2.2.1 _ w_oc) rfl (by rw [hml]; exact hl.1) rfl dX11_init_1 (Nat.le_of_ble_eq_true rfl) (Nat.le_of_ble_eq_true rfl) ?_
  refine W.eq (g2 := F0 m 4 la []) rfl ?_
  refine lv_aload_n cx.1 cx.2.1 dX11_init_4 rfl (lv_at hl 0 rfl) ?_
  refine N_new cx hK (C := RX6) (T := TX6) (N := 3) (ci := 2) (V := (vp_V [.null, .null, .null])) (q := 8) ws_in2 tyX6 tyX6_ok (j_in 135 (by decide +kernel) (by decide +kernel)) (j_in 136 (by decide +kernel) (by decide +kernel)) (j_in 108 (by decide +kernel) (by decide +kernel)) rfl (n_def2) dX11_init_5 (Nat.le_of_ble_eq_true rfl) (Nat.le_of_ble_eq_true rfl) hB rfl (fun H hB => ?_)
  have hB : hb s.heap H 1 [(h0, n_at D 6 5 (vp_V [.null, .null, .null, .null, .null])), (s.heap.size + 0, n_at D 2 3 (vp_V [.null, .null, .null]))] := hB
  refine W.eq (g2 := F0 m 8 la [.ref (s.heap.size + 0), .ref h0]) rfl ?_
  refine W.widen (k := 1) (n := 3) (Nat.le_of_ble_eq_true rfl) (Nat.le_of_ble_eq_true rfl) ?_
  refine lv_dup cx.1 cx.2.1 dX11_init_8 rfl ?_
  refine N_ctor cx hK hN (S' := n_at D 2 3 (vp_V [.ref (s.heap.size + 1), .ref (s.heap.size + 13), .ref (s.heap.size + 21)])) (P2 := [(s.heap.size + 1, n_at D 1 15 (vp_V [.ref (s.heap.size + 2), .ref (s.heap.size + 3), .ref (s.heap.size + 4), .ref (s.heap.size + 5), .ref (s.heap.size + 6), .ref (s.heap.size + 7), .ref (s.heap.size + 8), .ref (s.heap.size + 9), .ref (s.heap.size + 10), .ref (s.heap.size + 11), .ref (s.heap.size + 12), .int 0, .int 0, .int 0, .int 0])), (s.heap.size + 2, n_ar aI 100 (fun _ => 0)), (s.heap.size + 3, n_ar aI 49 (fun _ => 0)), (s.heap.size + 4, n_ar aI 49 (fun _ => 0)), (s.heap.size + 5, n_ar aI 49 (fun _ => 0)), (s.heap.size + 6, n_ar aI 360 (fun _ => 0)), (s.heap.size + 7, n_ar aI 6 (fun _ => 0)), (s.heap.size + 8, n_ar aI 6 (fun _ => 0)), (s.heap.size + 9, n_ar aI 6 (fun _ => 0)), (s.heap.size + 10, n_ar aI 6 (fun _ => 0)), (s.heap.size + 11, n_ar aI 6 (fun _ => 0)), (s.heap.size + 12, n_ar aI 6 (fun _ => 0)), (s.heap.size + 13, n_at D 0 15 (vp_V [.ref (s.heap.size + 1), .ref (s.heap.size + 14), .ref (s.heap.size + 15), .ref (s.heap.size + 16), .ref (s.heap.size + 17), .ref (s.heap.size + 18), .ref (s.heap.size + 19), .ref (s.heap.size + 20), .int 0, .int (3), .int (8), .int (4), .int 0, .int (6), .int 0])), (s.heap.size + 14, n_ar aI 112 (fun j => if j < 8 then 56 else 0)), (s.heap.size + 15, n_ar aI 256 (fun _ => 0)), (s.heap.size + 16, n_ar aI 48 (fun _ => -1)), (s.heap.size + 17, n_ar aI 48 (fun _ => 0)), (s.heap.size + 18, n_ar aI 6 (fun _ => 0)), (s.heap.size + 19, n_ar aI 6 (fun _ => 0)), (s.heap.size + 20, n_ar aI 6 (fun _ => 0)), (s.heap.size + 21, n_at D 4 8 (vp_V [.ref (s.heap.size + 22), .ref (s.heap.size + 23), .ref (s.heap.size + 24), .ref (s.heap.size + 25), .ref (s.heap.size + 26), .int 0, .int 0, .int 0])), (s.heap.size + 22, n_ar aI 1200 (fun _ => 0)), (s.heap.size + 23, n_ar aI 6 (fun _ => 0)), (s.heap.size + 24, n_ar aI 6 (fun _ => 0)), (s.heap.size + 25, n_ar aI 6 (fun _ => 0)), (s.heap.size + 26, n_ar aI 24 (fun _ => 0))]) (q := 12) 1 (c_X6_init l D aI aB z (s.heap.size + 0) ) cb_X6_init rfl (j_in 138 (by decide +kernel) (by decide +kernel)) (Or.inl (j_in 137 (by decide +kernel) (by decide +kernel))) dX11_init_9 rfl hl.1 (Nat.le_of_ble_eq_true rfl) ⟨Nat.le_of_ble_eq_true rfl, Nat.le_of_ble_eq_true rfl⟩ ⟨Nat.le_of_ble_eq_true rfl, Nat.le_of_ble_eq_true rfl⟩ hB rfl hz9 rfl (by simp <;> omega) hlo rfl (fun H locs hB hlo => ?_)
  have hB : hb s.heap H 27 [(h0, n_at D 6 5 (vp_V [.null, .null, .null, .null, .null])), (s.heap.size + 0, n_at D 2 3 (vp_V [.ref (s.heap.size + 1), .ref (s.heap.size + 13), .ref (s.heap.size + 21)])), (s.heap.size + 1, n_at D 1 15 (vp_V [.ref (s.heap.size + 2), .ref (s.heap.size + 3), .ref (s.heap.size + 4), .ref (s.heap.size + 5), .ref (s.heap.size + 6), .ref (s.heap.size + 7), .ref (s.heap.size + 8), .ref (s.heap.size + 9), .ref (s.heap.size + 10), .ref (s.heap.size + 11), .ref (s.heap.size + 12), .int 0, .int 0, .int 0, .int 0])), (s.heap.size + 2, n_ar aI 100 (fun _ => 0)), (s.heap.size + 3, n_ar aI 49 (fun _ => 0)), (s.heap.size + 4, n_ar aI 49 (fun _ => 0)), (s.heap.size + 5, n_ar aI 49 (fun _ => 0)), (s.heap.size + 6, n_ar aI 360 (fun _ => 0)), (s.heap.size + 7, n_ar aI 6 (fun _ => 0)), (s.heap.size + 8, n_ar aI 6 (fun _ => 0)), (s.heap.size + 9, n_ar aI 6 (fun _ => 0)), (s.heap.size + 10, n_ar aI 6 (fun _ => 0)), (s.heap.size + 11, n_ar aI 6 (fun _ => 0)), (s.heap.size + 12, n_ar aI 6 (fun _ => 0)), (s.heap.size + 13, n_at D 0 15 (vp_V [.ref (s.heap.size + 1), .ref (s.heap.size + 14), .ref (s.heap.size + 15), .ref (s.heap.size + 16), .ref (s.heap.size + 17), .ref (s.heap.size + 18), .ref (s.heap.size + 19), .ref (s.heap.size + 20), .int 0, .int (3), .int (8), .int (4), .int 0, .int (6), .int 0])), (s.heap.size + 14, n_ar aI 112 (fun j => if j < 8 then 56 else 0)), (s.heap.size + 15, n_ar aI 256 (fun _ => 0)), (s.heap.size + 16, n_ar aI 48 (fun _ => -1)), (s.heap.size + 17, n_ar aI 48 (fun _ => 0)), (s.heap.size + 18, n_ar aI 6 (fun _ => 0)), (s.heap.size + 19, n_ar aI 6 (fun _ => 0)), (s.heap.size + 20, n_ar aI 6 (fun _ => 0)), (s.heap.size + 21, n_at D 4 8 (vp_V [.ref (s.heap.size + 22), .ref (s.heap.size + 23), .ref (s.heap.size + 24), .ref (s.heap.size + 25), .ref (s.heap.size + 26), .int 0, .int 0, .int 0])), (s.heap.size + 22, n_ar aI 1200 (fun _ => 0)), (s.heap.size + 23, n_ar aI 6 (fun _ => 0)), (s.heap.size + 24, n_ar aI 6 (fun _ => 0)), (s.heap.size + 25, n_ar aI 6 (fun _ => 0)), (s.heap.size + 26, n_ar aI 24 (fun _ => 0))] := hB
  refine W.eq (g2 := F0 m 12 la [.ref (s.heap.size + 0), .ref h0]) rfl ?_
  refine W.widen (k := 27) (n := 2408) (Nat.le_of_ble_eq_true rfl) (Nat.le_of_ble_eq_true rfl) ?_
  refine N_put cx hK (ci := 6) (N := 5) (V' := (vp_V [.ref (s.heap.size + 0), .null, .null, .null, .null])) (q := 15) 0 0 dX11_init_12 fRX11_10 (Or.inr ⟨ff_6_0, hin⟩) rfl rfl rfl hB rfl hz hlo (n_setV (Nat.le_of_ble_eq_true rfl) _) rfl (fun H locs hB hlo => ?_)
  have hB : hb s.heap H 27 [(h0, n_at D 6 5 (vp_V [.ref (s.heap.size + 0), .null, .null, .null, .null])), (s.heap.size + 0, n_at D 2 3 (vp_V [.ref (s.heap.size + 1), .ref (s.heap.size + 13), .ref (s.heap.size + 21)])), (s.heap.size + 1, n_at D 1 15 (vp_V [.ref (s.heap.size + 2), .ref (s.heap.size + 3), .ref (s.heap.size + 4), .ref (s.heap.size + 5), .ref (s.heap.size + 6), .ref (s.heap.size + 7), .ref (s.heap.size + 8), .ref (s.heap.size + 9), .ref (s.heap.size + 10), .ref (s.heap.size + 11), .ref (s.heap.size + 12), .int 0, .int 0, .int 0, .int 0])), (s.heap.size + 2, n_ar aI 100 (fun _ => 0)), (s.heap.size + 3, n_ar aI 49 (fun _ => 0)), (s.heap.size + 4, n_ar aI 49 (fun _ => 0)), (s.heap.size + 5, n_ar aI 49 (fun _ => 0)), (s.heap.size + 6, n_ar aI 360 (fun _ => 0)), (s.heap.size + 7, n_ar aI 6 (fun _ => 0)), (s.heap.size + 8, n_ar aI 6 (fun _ => 0)), (s.heap.size + 9, n_ar aI 6 (fun _ => 0)), (s.heap.size + 10, n_ar aI 6 (fun _ => 0)), (s.heap.size + 11, n_ar aI 6 (fun _ => 0)), (s.heap.size + 12, n_ar aI 6 (fun _ => 0)), (s.heap.size + 13, n_at D 0 15 (vp_V [.ref (s.heap.size + 1), .ref (s.heap.size + 14), .ref (s.heap.size + 15), .ref (s.heap.size + 16), .ref (s.heap.size + 17), .ref (s.heap.size + 18), .ref (s.heap.size + 19), .ref (s.heap.size + 20), .int 0, .int (3), .int (8), .int (4), .int 0, .int (6), .int 0])), (s.heap.size + 14, n_ar aI 112 (fun j => if j < 8 then 56 else 0)), (s.heap.size + 15, n_ar aI 256 (fun _ => 0)), (s.heap.size + 16, n_ar aI 48 (fun _ => -1)), (s.heap.size + 17, n_ar aI 48 (fun _ => 0)), (s.heap.size + 18, n_ar aI 6 (fun _ => 0)), (s.heap.size + 19, n_ar aI 6 (fun _ => 0)), (s.heap.size + 20, n_ar aI 6 (fun _ => 0)), (s.heap.size + 21, n_at D 4 8 (vp_V [.ref (s.heap.size + 22), .ref (s.heap.size + 23), .ref (s.heap.size + 24), .ref (s.heap.size + 25), .ref (s.heap.size + 26), .int 0, .int 0, .int 0])), (s.heap.size + 22, n_ar aI 1200 (fun _ => 0)), (s.heap.size + 23, n_ar aI 6 (fun _ => 0)), (s.heap.size + 24, n_ar aI 6 (fun _ => 0)), (s.heap.size + 25, n_ar aI 6 (fun _ => 0)), (s.heap.size + 26, n_ar aI 24 (fun _ => 0))] := hB
  refine lv_aload_n cx.1 cx.2.1 dX11_init_15 rfl (lv_at hl 0 rfl) ?_
  refine N_new cx hK (C := RX8) (T := TX8) (N := 13) (ci := 3) (V := (vp_V [.null, .null, .null, .null, .int 0, .int 0, .int 0, .int 0, .int 0, .int 0, .int 0, .int 0, .int 0])) (q := 19) ws_in3 tyX8 tyX8_ok (j_in 342 (by decide +kernel) (by decide +kernel)) (j_in 343 (by decide +kernel) (by decide +kernel)) (j_in 113 (by decide +kernel) (by decide +kernel)) rfl (n_def3) dX11_init_16 (Nat.le_of_ble_eq_true rfl) (Nat.le_of_ble_eq_true rfl) hB rfl (fun H hB => ?_)
  have hB : hb s.heap H 28 [(h0, n_at D 6 5 (vp_V [.ref (s.heap.size + 0), .null, .null, .null, .null])), (s.heap.size + 0, n_at D 2 3 (vp_V [.ref (s.heap.size + 1), .ref (s.heap.size + 13), .ref (s.heap.size + 21)])), (s.heap.size + 1, n_at D 1 15 (vp_V [.ref (s.heap.size + 2), .ref (s.heap.size + 3), .ref (s.heap.size + 4), .ref (s.heap.size + 5), .ref (s.heap.size + 6), .ref (s.heap.size + 7), .ref (s.heap.size + 8), .ref (s.heap.size + 9), .ref (s.heap.size + 10), .ref (s.heap.size + 11), .ref (s.heap.size + 12), .int 0, .int 0, .int 0, .int 0])), (s.heap.size + 2, n_ar aI 100 (fun _ => 0)), (s.heap.size + 3, n_ar aI 49 (fun _ => 0)), (s.heap.size + 4, n_ar aI 49 (fun _ => 0)), (s.heap.size + 5, n_ar aI 49 (fun _ => 0)), (s.heap.size + 6, n_ar aI 360 (fun _ => 0)), (s.heap.size + 7, n_ar aI 6 (fun _ => 0)), (s.heap.size + 8, n_ar aI 6 (fun _ => 0)), (s.heap.size + 9, n_ar aI 6 (fun _ => 0)), (s.heap.size + 10, n_ar aI 6 (fun _ => 0)), (s.heap.size + 11, n_ar aI 6 (fun _ => 0)), (s.heap.size + 12, n_ar aI 6 (fun _ => 0)), (s.heap.size + 13, n_at D 0 15 (vp_V [.ref (s.heap.size + 1), .ref (s.heap.size + 14), .ref (s.heap.size + 15), .ref (s.heap.size + 16), .ref (s.heap.size + 17), .ref (s.heap.size + 18), .ref (s.heap.size + 19), .ref (s.heap.size + 20), .int 0, .int (3), .int (8), .int (4), .int 0, .int (6), .int 0])), (s.heap.size + 14, n_ar aI 112 (fun j => if j < 8 then 56 else 0)), (s.heap.size + 15, n_ar aI 256 (fun _ => 0)), (s.heap.size + 16, n_ar aI 48 (fun _ => -1)), (s.heap.size + 17, n_ar aI 48 (fun _ => 0)), (s.heap.size + 18, n_ar aI 6 (fun _ => 0)), (s.heap.size + 19, n_ar aI 6 (fun _ => 0)), (s.heap.size + 20, n_ar aI 6 (fun _ => 0)), (s.heap.size + 21, n_at D 4 8 (vp_V [.ref (s.heap.size + 22), .ref (s.heap.size + 23), .ref (s.heap.size + 24), .ref (s.heap.size + 25), .ref (s.heap.size + 26), .int 0, .int 0, .int 0])), (s.heap.size + 22, n_ar aI 1200 (fun _ => 0)), (s.heap.size + 23, n_ar aI 6 (fun _ => 0)), (s.heap.size + 24, n_ar aI 6 (fun _ => 0)), (s.heap.size + 25, n_ar aI 6 (fun _ => 0)), (s.heap.size + 26, n_ar aI 24 (fun _ => 0)), (s.heap.size + 27, n_at D 3 13 (vp_V [.null, .null, .null, .null, .int 0, .int 0, .int 0, .int 0, .int 0, .int 0, .int 0, .int 0, .int 0]))] := hB
  refine W.eq (g2 := F0 m 19 la [.ref (s.heap.size + 27), .ref h0]) rfl ?_
  refine W.widen (k := 28) (n := 2421) (Nat.le_of_ble_eq_true rfl) (Nat.le_of_ble_eq_true rfl) ?_
  refine lv_dup cx.1 cx.2.1 dX11_init_19 rfl ?_
  refine N_ctor cx hK hN (S' := n_at D 3 13 (vp_V [.ref (s.heap.size + 28), .ref (s.heap.size + 29), .ref (s.heap.size + 30), .ref (s.heap.size + 31), .int 0, .int 0, .int (-1), .int 0, .int 0, .int 0, .int 0, .int 0, .int 0])) (P2 := [(s.heap.size + 28, n_ar aI 400 (fun _ => 0)), (s.heap.size + 29, n_ar aI 200 (fun _ => 0)), (s.heap.size + 30, n_ar aI 3 (fun _ => 0)), (s.heap.size + 31, n_ar aI 3 (fun _ => 0))]) (q := 23) 28 (c_X8_init l D aI aB z (s.heap.size + 27) ) cb_X8_init rfl (j_in 345 (by decide +kernel) (by decide +kernel)) (Or.inr ⟨RX11, hN _ (List.mem_of_getElem? (i := 2) rfl)⟩) dX11_init_20 rfl hl.1 (Nat.le_of_ble_eq_true rfl) ⟨Nat.le_of_ble_eq_true rfl, Nat.le_of_ble_eq_true rfl⟩ ⟨Nat.le_of_ble_eq_true rfl, Nat.le_of_ble_eq_true rfl⟩ hB rfl hz9 rfl (by simp <;> omega) hlo rfl (fun H locs hB hlo => ?_)
  have hB : hb s.heap H 32 [(h0, n_at D 6 5 (vp_V [.ref (s.heap.size + 0), .null, .null, .null, .null])), (s.heap.size + 0, n_at D 2 3 (vp_V [.ref (s.heap.size + 1), .ref (s.heap.size + 13), .ref (s.heap.size + 21)])), (s.heap.size + 1, n_at D 1 15 (vp_V [.ref (s.heap.size + 2), .ref (s.heap.size + 3), .ref (s.heap.size + 4), .ref (s.heap.size + 5), .ref (s.heap.size + 6), .ref (s.heap.size + 7), .ref (s.heap.size + 8), .ref (s.heap.size + 9), .ref (s.heap.size + 10), .ref (s.heap.size + 11), .ref (s.heap.size + 12), .int 0, .int 0, .int 0, .int 0])), (s.heap.size + 2, n_ar aI 100 (fun _ => 0)), (s.heap.size + 3, n_ar aI 49 (fun _ => 0)), (s.heap.size + 4, n_ar aI 49 (fun _ => 0)), (s.heap.size + 5, n_ar aI 49 (fun _ => 0)), (s.heap.size + 6, n_ar aI 360 (fun _ => 0)), (s.heap.size + 7, n_ar aI 6 (fun _ => 0)), (s.heap.size + 8, n_ar aI 6 (fun _ => 0)), (s.heap.size + 9, n_ar aI 6 (fun _ => 0)), (s.heap.size + 10, n_ar aI 6 (fun _ => 0)), (s.heap.size + 11, n_ar aI 6 (fun _ => 0)), (s.heap.size + 12, n_ar aI 6 (fun _ => 0)), (s.heap.size + 13, n_at D 0 15 (vp_V [.ref (s.heap.size + 1), .ref (s.heap.size + 14), .ref (s.heap.size + 15), .ref (s.heap.size + 16), .ref (s.heap.size + 17), .ref (s.heap.size + 18), .ref (s.heap.size + 19), .ref (s.heap.size + 20), .int 0, .int (3), .int (8), .int (4), .int 0, .int (6), .int 0])), (s.heap.size + 14, n_ar aI 112 (fun j => if j < 8 then 56 else 0)), (s.heap.size + 15, n_ar aI 256 (fun _ => 0)), (s.heap.size + 16, n_ar aI 48 (fun _ => -1)), (s.heap.size + 17, n_ar aI 48 (fun _ => 0)), (s.heap.size + 18, n_ar aI 6 (fun _ => 0)), (s.heap.size + 19, n_ar aI 6 (fun _ => 0)), (s.heap.size + 20, n_ar aI 6 (fun _ => 0)), (s.heap.size + 21, n_at D 4 8 (vp_V [.ref (s.heap.size + 22), .ref (s.heap.size + 23), .ref (s.heap.size + 24), .ref (s.heap.size + 25), .ref (s.heap.size + 26), .int 0, .int 0, .int 0])), (s.heap.size + 22, n_ar aI 1200 (fun _ => 0)), (s.heap.size + 23, n_ar aI 6 (fun _ => 0)), (s.heap.size + 24, n_ar aI 6 (fun _ => 0)), (s.heap.size + 25, n_ar aI 6 (fun _ => 0)), (s.heap.size + 26, n_ar aI 24 (fun _ => 0)), (s.heap.size + 27, n_at D 3 13 (vp_V [.ref (s.heap.size + 28), .ref (s.heap.size + 29), .ref (s.heap.size + 30), .ref (s.heap.size + 31), .int 0, .int 0, .int (-1), .int 0, .int 0, .int 0, .int 0, .int 0, .int 0])), (s.heap.size + 28, n_ar aI 400 (fun _ => 0)), (s.heap.size + 29, n_ar aI 200 (fun _ => 0)), (s.heap.size + 30, n_ar aI 3 (fun _ => 0)), (s.heap.size + 31, n_ar aI 3 (fun _ => 0))] := hB
  refine W.eq (g2 := F0 m 23 la [.ref (s.heap.size + 27), .ref h0]) rfl ?_
  refine W.widen (k := 32) (n := 3027) (Nat.le_of_ble_eq_true rfl) (Nat.le_of_ble_eq_true rfl) ?_
  refine N_put cx hK (ci := 6) (N := 5) (V' := (vp_V [.ref (s.heap.size + 0), .ref (s.heap.size + 27), .null, .null, .null])) (q := 26) 1 0 dX11_init_23 fRX11_19 (Or.inr ⟨ff_6_1, hin⟩) rfl rfl rfl hB rfl hz hlo (n_setV (Nat.le_of_ble_eq_true rfl) _) rfl (fun H locs hB hlo => ?_)
  have hB : hb s.heap H 32 [(h0, n_at D 6 5 (vp_V [.ref (s.heap.size + 0), .ref (s.heap.size + 27), .null, .null, .null])), (s.heap.size + 0, n_at D 2 3 (vp_V [.ref (s.heap.size + 1), .ref (s.heap.size + 13), .ref (s.heap.size + 21)])), (s.heap.size + 1, n_at D 1 15 (vp_V [.ref (s.heap.size + 2), .ref (s.heap.size + 3), .ref (s.heap.size + 4), .ref (s.heap.size + 5), .ref (s.heap.size + 6), .ref (s.heap.size + 7), .ref (s.heap.size + 8), .ref (s.heap.size + 9), .ref (s.heap.size + 10), .ref (s.heap.size + 11), .ref (s.heap.size + 12), .int 0, .int 0, .int 0, .int 0])), (s.heap.size + 2, n_ar aI 100 (fun _ => 0)), (s.heap.size + 3, n_ar aI 49 (fun _ => 0)), (s.heap.size + 4, n_ar aI 49 (fun _ => 0)), (s.heap.size + 5, n_ar aI 49 (fun _ => 0)), (s.heap.size + 6, n_ar aI 360 (fun _ => 0)), (s.heap.size + 7, n_ar aI 6 (fun _ => 0)), (s.heap.size + 8, n_ar aI 6 (fun _ => 0)), (s.heap.size + 9, n_ar aI 6 (fun _ => 0)), (s.heap.size + 10, n_ar aI 6 (fun _ => 0)), (s.heap.size + 11, n_ar aI 6 (fun _ => 0)), (s.heap.size + 12, n_ar aI 6 (fun _ => 0)), (s.heap.size + 13, n_at D 0 15 (vp_V [.ref (s.heap.size + 1), .ref (s.heap.size + 14), .ref (s.heap.size + 15), .ref (s.heap.size + 16), .ref (s.heap.size + 17), .ref (s.heap.size + 18), .ref (s.heap.size + 19), .ref (s.heap.size + 20), .int 0, .int (3), .int (8), .int (4), .int 0, .int (6), .int 0])), (s.heap.size + 14, n_ar aI 112 (fun j => if j < 8 then 56 else 0)), (s.heap.size + 15, n_ar aI 256 (fun _ => 0)), (s.heap.size + 16, n_ar aI 48 (fun _ => -1)), (s.heap.size + 17, n_ar aI 48 (fun _ => 0)), (s.heap.size + 18, n_ar aI 6 (fun _ => 0)), (s.heap.size + 19, n_ar aI 6 (fun _ => 0)), (s.heap.size + 20, n_ar aI 6 (fun _ => 0)), (s.heap.size + 21, n_at D 4 8 (vp_V [.ref (s.heap.size + 22), .ref (s.heap.size + 23), .ref (s.heap.size + 24), .ref (s.heap.size + 25), .ref (s.heap.size + 26), .int 0, .int 0, .int 0])), (s.heap.size + 22, n_ar aI 1200 (fun _ => 0)), (s.heap.size + 23, n_ar aI 6 (fun _ => 0)), (s.heap.size + 24, n_ar aI 6 (fun _ => 0)), (s.heap.size + 25, n_ar aI 6 (fun _ => 0)), (s.heap.size + 26, n_ar aI 24 (fun _ => 0)), (s.heap.size + 27, n_at D 3 13 (vp_V [.ref (s.heap.size + 28), .ref (s.heap.size + 29), .ref (s.heap.size + 30), .ref (s.heap.size + 31), .int 0, .int 0, .int (-1), .int 0, .int 0, .int 0, .int 0, .int 0, .int 0])), (s.heap.size + 28, n_ar aI 400 (fun _ => 0)), (s.heap.size + 29, n_ar aI 200 (fun _ => 0)), (s.heap.size + 30, n_ar aI 3 (fun _ => 0)), (s.heap.size + 31, n_ar aI 3 (fun _ => 0))] := hB
  have hlocks := cx.2.2.2.2.2.2
  exact W.vret cx.1 cx.2.1 cx.2.2.1 (fun t ht hW => ⟨rfl, by rw [ht]; exact hB⟩) hlo dX11_init_26
