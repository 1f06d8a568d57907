def j_F (own : String) (ix ci k : Nat) : Prop := ∃ (C : String) (T : u_T) (N : Nat), vwCl[ci]? = some (C, T, N) ∧ k < N ∧ (∀ w ∈ u_ws C T N, w ∈ j_ws) ∧ Cond.fieldLink own ix (T k).1 (T k).2.1 (T k).2.2.1 ∈ j_ws
def j_FP (ci k : Nat) (ty : FieldType) : Prop := ∃ (C : String) (T : u_T) (N : Nat) (ty0 : Nat → FieldType), vwCl[ci]? = some (C, T, N) ∧ (∀ k, k < N → parseFieldDescriptor (T k).2.2.1 = some (ty0 k)) ∧ (∀ a, a < N → ∀ b, b < N → a ≠ b → (T a).2.1 ≠ (T b).2.1) ∧ (T k).2.2.2 = false ∧ parseFieldDescriptor (T k).2.2.1 = some ty
def mcp (M : j_M) (a0 sp a dp n : Nat) : j_M := fun x j => if x = a ∧ x ≠ 0 then (if dp ≤ j ∧ j < dp + n then M a0 (sp + (j - dp)) else M x j) else M x j
def gc {ρ : Type} (sp dp n : Int32) (n0 n1 : Nat) (X : Option ρ) : Option ρ := if sp < 0 ∨ dp < 0 ∨ n < 0 ∨ n0 < sp.toNatClampNeg + n.toNatClampNeg ∨ n1 < dp.toNatClampNeg + n.toNatClampNeg then none else X
theorem gc_some {ρ : Type} {sp dp n : Int32} {n0 n1 : Nat} {X : Option ρ} {r : ρ} (h : gc sp dp n n0 n1 X = some r) : (¬ sp < 0 ∧ ¬ dp < 0 ∧ ¬ n < 0 ∧ sp.toNatClampNeg + n.toNatClampNeg ≤ n0 ∧ dp.toNatClampNeg + n.toNatClampNeg ≤ n1) ∧ X = some r := by
  unfold gc at h
  by_cases hc : sp < 0 ∨ dp < 0 ∨ n < 0 ∨ n0 < sp.toNatClampNeg + n.toNatClampNeg ∨ n1 < dp.toNatClampNeg + n.toNatClampNeg
  · rw [if_pos hc] at h; cases h
  · rw [if_neg hc] at h
    simp only [not_or, Nat.not_lt] at hc
    exact ⟨hc, h⟩
theorem mcp_0 (M : j_M) (a0 sp a dp n j : Nat) : mcp M a0 sp a dp n 0 j = M 0 j := by simp [mcp]
theorem j_cc_mcp (M : j_M) (a0 sp a dp n : Nat) : j_cc (mcp M a0 sp a dp n) = j_cc M := by simp [j_cc, mcp_0]
theorem j_cs_mcp (M : j_M) (a0 sp a dp n : Nat) : j_cs (mcp M a0 sp a dp n) = j_cs M := by simp [j_cs, mcp_0]
section JR
variable {ρ : Type} {y : MethodName} {cc : ByteArray} {nL : Nat} {ret : Option FieldType} {fr lo : Nat} {em : ρ → Option j_V × j_M} {pc : Nat} {ll : List (Nat × j_V)} {st : List j_V} {M : j_M} {X : Option ρ}
theorem j_sv {io : Nat → Nat} {k n a : Nat} (hk : k ≠ 0) : j_val io (.inr (k, n, a)) = .ref (io a) := by simp [j_val, hk]
theorem j_si {io : Nat → Nat} {i : Int32} : j_val io (.inl i) = .int i := rfl
theorem j_locs {H0 : Heap} {locs L : List Loc} (h : ∀ q ∈ locs, H0.size ≤ q.base) (h' : ∀ q ∈ L, H0.size ≤ q.base) : ∀ q ∈ locs ++ L, H0.size ≤ q.base := fun q hq => by
  rcases List.mem_append.mp hq with h9 | h9
  · exact h q h9
  · exact h' q h9
theorem j_arr {D : va_G} {aI aB : ClassId} {H0 : Heap} {io : Nat → Nat} {Lv : j_L} {K0 : j_M} {H : Heap} {n a : Nat} (hH : j_H D aI aB H0 io Lv K0 M H) (hl : Lv 1 n a) : H[io a]? = some (arrV aI n (fun j => .int (M a j))) ∧ H0.size ≤ io a ∧ a ≠ 0 :=
  ⟨((hH.2.2.2.2.1 1 n a hl).1 rfl).1, ((hH.2.2.2.2.1 1 n a hl).1 rfl).2, fun e => by subst e; have := hH.2.2.2.1 1 n hl; omega⟩
theorem j_arrB {D : va_G} {aI aB : ClassId} {H0 : Heap} {io : Nat → Nat} {Lv : j_L} {K0 : j_M} {H : Heap} {n a : Nat} (hH : j_H D aI aB H0 io Lv K0 M H) (hl : Lv 2 n a) : H[io a]? = some (arrV aB n (fun j => .int (M a j))) ∧ H0.size ≤ io a ∧ a ≠ 0 :=
  ⟨((hH.2.2.2.2.1 2 n a hl).2.1 rfl).1, ((hH.2.2.2.2.1 2 n a hl).2.1 rfl).2, fun e => by subst e; have := hH.2.2.2.1 2 n hl; omega⟩
theorem J_iald {i : Int32} {n a : Nat} (d : decode cc pc = .ok (.iaload, 1)) (h : J y cc nL ret fr lo em (pc + 1) ll (.inl (M a i.toNatClampNeg) :: st) M X) : J y cc nL ret fr lo em pc ll (.inl i :: .inr (1, n, a) :: st) M (gd i n X) := by
  intro r hr
  obtain ⟨hin, hr⟩ := gd_some hr
  refine ⟨(h r hr).1, ?_⟩
  intro p l e s m args below meth c D aI aB H0 io Lv K0 mc ms H locs cells slots la cx hS hH hl hll hst hlo h1 h2
  have hA := j_arr hH (hst (.inr (1, n, a)) (by simp) (Nat.succ_ne_zero _))
  have hlt : i.toNatClampNeg < n := Nat.not_le.mp fun q => hin (Or.inr q)
  rw [List.map_cons, List.map_cons, j_sv (by decide)]
  exact W.iald (v := .int (M a i.toNatClampNeg)) cx.1 cx.2.1 hA.1 ((hS.1.2 0 _ rfl).1 n (fun j => .int (M a j))) (fun q => by cases q) (by rw [arrV_size]; exact hin) (by rw [arrV_read _ _ hlt]) rfl rfl d
    ((h r hr).2 p l e s m args below meth c D aI aB H0 io Lv K0 mc ms H locs cells slots la cx hS hH hl hll (j_live_c (j_live_i _) (j_live_t (j_live_t hst))) hlo h1 h2)
theorem J_iald3 {i : Int32} {n a : Nat} (d : decode cc pc = .ok (.iaload, 1)) (h : J y cc nL ret fr lo em (pc + 1) ll (.inl (M a i.toNatClampNeg) :: st) M X) : J y cc nL ret fr lo em pc ll (.inl i :: .inr (3, n, a) :: st) M (gd i n X) := by
  intro r hr
  obtain ⟨hin, hr⟩ := gd_some hr
  refine ⟨(h r hr).1, ?_⟩
  intro p l e s m args below meth c D aI aB H0 io Lv K0 mc ms H locs cells slots la cx hS hH hl hll hst hlo h1 h2
  have hLv : Lv 3 n a := hst (.inr (3, n, a)) (by simp) (Nat.succ_ne_zero _)
  obtain ⟨scr, x1, x2, x3, x4, x6, x5, -⟩ := hS.2.1 n a hLv
  obtain ⟨-, -, ⟨eM, hz⟩, -⟩ := hH.2.2.2.2.1 3 n a hLv
  have hlt : i.toNatClampNeg < n := Nat.not_le.mp fun q => hin (Or.inr q)
  rw [List.map_cons, List.map_cons, j_sv (by decide)]
  exact W.iald (v := .int (M a i.toNatClampNeg)) cx.1 cx.2.1 (by rw [hH.2.1 _ (hz (by decide) (by decide))]; exact x1) x2 x3 (fun e9 => e9.elim (fun e9 => hin (Or.inl e9)) (fun e9 => by omega)) (by rw [eM rfl]; exact x5 _ hlt) rfl rfl d
    ((h r hr).2 p l e s m args below meth c D aI aB H0 io Lv K0 mc ms H locs cells slots la cx hS hH hl hll (j_live_c (j_live_i _) (j_live_t (j_live_t hst))) hlo h1 h2)
theorem J_alen3 {n a : Nat} {v : Int32} (d : decode cc pc = .ok (.arraylength, 1)) (hv : Int32.ofNat n = v) (h : J y cc nL ret fr lo em (pc + 1) ll (.inl v :: st) M X) : J y cc nL ret fr lo em pc ll (.inr (3, n, a) :: st) M X := by
  intro r hr
  refine ⟨(h r hr).1, ?_⟩
  intro p l e s m args below meth c D aI aB H0 io Lv K0 mc ms H locs cells slots la cx hS hH hl hll hst hlo h1 h2
  have hLv : Lv 3 n a := hst (.inr (3, n, a)) (by simp) (Nat.succ_ne_zero _)
  obtain ⟨scr, x1, x2, x3, x4, x6, x5, -⟩ := hS.2.1 n a hLv
  obtain ⟨-, -, ⟨eM, hz⟩, -⟩ := hH.2.2.2.2.1 3 n a hLv
  rw [List.map_cons, j_sv (by decide)]
  exact W.alen (n := v) cx.1 cx.2.1 (by rw [hH.2.1 _ (hz (by decide) (by decide))]; exact x1) x2 (by rw [x6]; exact hv) rfl rfl d
    ((h r hr).2 p l e s m args below meth c D aI aB H0 io Lv K0 mc ms H locs cells slots la cx hS hH hl hll (j_live_c (j_live_i _) (j_live_t hst)) hlo h1 h2)
theorem J_alen {n a : Nat} {v : Int32} (d : decode cc pc = .ok (.arraylength, 1)) (hv : Int32.ofNat n = v) (h : J y cc nL ret fr lo em (pc + 1) ll (.inl v :: st) M X) : J y cc nL ret fr lo em pc ll (.inr (1, n, a) :: st) M X := by
  intro r hr
  refine ⟨(h r hr).1, ?_⟩
  intro p l e s m args below meth c D aI aB H0 io Lv K0 mc ms H locs cells slots la cx hS hH hl hll hst hlo h1 h2
  have hA := j_arr hH (hst (.inr (1, n, a)) (by simp) (Nat.succ_ne_zero _))
  rw [List.map_cons, j_sv (by decide)]
  exact W.alen (n := v) cx.1 cx.2.1 hA.1 ((hS.1.2 0 _ rfl).1 n (fun j => .int (M a j))) (by rw [arrV_size]; exact hv) rfl rfl d
    ((h r hr).2 p l e s m args below meth c D aI aB H0 io Lv K0 mc ms H locs cells slots la cx hS hH hl hll (j_live_c (j_live_i _) (j_live_t hst)) hlo h1 h2)
theorem J_bald {i : Int32} {n a : Nat} (d : decode cc pc = .ok (.baload, 1)) (h : J y cc nL ret fr lo em (pc + 1) ll (.inl (M a i.toNatClampNeg) :: st) M X) : J y cc nL ret fr lo em pc ll (.inl i :: .inr (2, n, a) :: st) M (gd i n X) := by
  intro r hr
  obtain ⟨hin, hr⟩ := gd_some hr
  refine ⟨(h r hr).1, ?_⟩
  intro p l e s m args below meth c D aI aB H0 io Lv K0 mc ms H locs cells slots la cx hS hH hl hll hst hlo h1 h2
  have hA := j_arrB hH (hst (.inr (2, n, a)) (by simp) (Nat.succ_ne_zero _))
  have hlt : i.toNatClampNeg < n := Nat.not_le.mp fun q => hin (Or.inr q)
  rw [List.map_cons, List.map_cons, j_sv (by decide)]
  exact W.bald (v := .int (M a i.toNatClampNeg)) cx.1 cx.2.1 hA.1 ((hS.1.2 1 _ rfl).1 n (fun j => .int (M a j))) (fun q => by cases q) (by rw [arrV_size]; exact hin) (by rw [arrV_read _ _ hlt]) rfl rfl d
    ((h r hr).2 p l e s m args below meth c D aI aB H0 io Lv K0 mc ms H locs cells slots la cx hS hH hl hll (j_live_c (j_live_i _) (j_live_t (j_live_t hst))) hlo h1 h2)
theorem j_arr_set (cA : ClassId) (n : Nat) (M : j_M) {a : Nat} (ha : a ≠ 0) (k : Nat) (v : Int32) : (arrV cA n (fun j => .int (M a j))).setSlot k (.int v) = arrV cA n (fun j => .int (mw M a k v a j)) := by
  rw [arrV_store]
  congr 1
  funext j
  by_cases hj : j = k
  · subst hj; simp [updV, mw, ha]
  · simp [updV, mw, hj]
theorem J_iast {i v : Int32} {n a : Nat} (d : decode cc pc = .ok (.iastore, 1)) (h : J y cc nL ret fr lo em (pc + 1) ll st (mw M a i.toNatClampNeg v) X) : J y cc nL ret fr lo em pc ll (.inl v :: .inl i :: .inr (1, n, a) :: st) M (gd i n X) := by
  intro r hr
  obtain ⟨hin, hr⟩ := gd_some hr
  refine ⟨(j_le_mw M a _ v).trans (h r hr).1, ?_⟩
  intro p l e s m args below meth c D aI aB H0 io Lv K0 mc ms H locs cells slots la cx hS hH hl hll hst hlo h1 h2
  have hLv : Lv 1 n a := hst (.inr (1, n, a)) (by simp) (Nat.succ_ne_zero _)
  have hA := j_arr hH hLv
  rw [List.map_cons, List.map_cons, List.map_cons, j_sv (by decide)]
  refine W.iast cx.1 cx.2.1 hA.1 ((hS.1.2 0 _ rfl).1 n (fun j => .int (M a j))) (fun q => by cases q) (by rw [arrV_size]; exact hin) rfl rfl d fun H1 e0 z oq => ?_
  rw [j_arr_set _ _ _ hA.2.2] at e0
  exact (h r hr).2 p l e s m args below meth c D aI aB H0 io Lv K0 mc ms H1 (locs ++ [⟨io a, i.toNatClampNeg⟩]) cells slots la cx hS (j_H_wr hH (Or.inl (by decide)) hA.2.2 hLv hA.2.1 z oq (fun x hx => by funext j; simp [mw, hx]) ⟨fun _ => ⟨e0, hA.2.1⟩, by omega, by omega, fun ci => by omega⟩) hl hll (j_live_t (j_live_t (j_live_t hst))) (j_locs hlo (fun q hq => by rw [List.mem_singleton.mp hq]; exact hA.2.1)) (by rw [j_cc_mw]; exact h1) (by rw [j_cs_mw]; exact h2)
theorem J_bast {i v : Int32} {n a : Nat} (d : decode cc pc = .ok (.bastore, 1)) (h : J y cc nL ret fr lo em (pc + 1) ll st (mw M a i.toNatClampNeg v.toInt8.toInt32) X) : J y cc nL ret fr lo em pc ll (.inl v :: .inl i :: .inr (2, n, a) :: st) M (gd i n X) := by
  intro r hr
  obtain ⟨hin, hr⟩ := gd_some hr
  refine ⟨(j_le_mw M a _ _).trans (h r hr).1, ?_⟩
  intro p l e s m args below meth c D aI aB H0 io Lv K0 mc ms H locs cells slots la cx hS hH hl hll hst hlo h1 h2
  have hLv : Lv 2 n a := hst (.inr (2, n, a)) (by simp) (Nat.succ_ne_zero _)
  have hA := j_arrB hH hLv
  rw [List.map_cons, List.map_cons, List.map_cons, j_sv (by decide)]
  refine W.bast cx.1 cx.2.1 hA.1 ((hS.1.2 1 _ rfl).1 n (fun j => .int (M a j))) (fun q => by cases q) (by rw [arrV_size]; exact hin) rfl rfl d fun H1 e0 z oq => ?_
  have e7 : narrow .byte (.int v) = .int v.toInt8.toInt32 := rfl
  rw [e7, j_arr_set _ _ _ hA.2.2] at e0
  exact (h r hr).2 p l e s m args below meth c D aI aB H0 io Lv K0 mc ms H1 (locs ++ [⟨io a, i.toNatClampNeg⟩]) cells slots la cx hS (j_H_wr hH (Or.inl (by decide)) hA.2.2 hLv hA.2.1 z oq (fun x hx => by funext j; simp [mw, hx]) ⟨by omega, fun _ => ⟨e0, hA.2.1⟩, by omega, fun ci => by omega⟩) hl hll (j_live_t (j_live_t (j_live_t hst))) (j_locs hlo (fun q hq => by rw [List.mem_singleton.mp hq]; exact hA.2.1)) (by rw [j_cc_mw]; exact h1) (by rw [j_cs_mw]; exact h2)
/-! fields -/
theorem j_getf {p : Program} {l : Launch} {e : Env} {R : Room} {s : State} {m : MethodId} {args : Array Value} {below : List Frame} {meth : Method} {c : Code} {H : Heap} {locs : List Loc} {cells slots : Nat} {Q : State → Prop} {D : va_G} {aI aB : ClassId} {H0 : Heap} {io : Nat → Nat} {Lv : j_L} {K0 : j_M} {la : Array Slot} {rest : List Value} {ix ci k a : Nat} (cx : j_Cx y cc nL ret p s m args meth c) (hS : j_S D aI aB H0 io Lv K0 s) (hH : j_H D aI aB H0 io Lv K0 M H) (d : decode cc pc = .ok (.getfield ix, 3)) (hf : j_F y.cls ix ci k) (hl : Lv (10 + ci) 0 a)
    (kk : W p l e R s m args below meth c H locs cells slots Q (F0 m (pc + 3) la (j_fv io M ci a k :: rest))) : W p l e R s m args below meth c H locs cells slots Q (F0 m pc la (.ref (io a) :: rest)) := by
  obtain ⟨C, T, N, hc, hk, hin, hlink⟩ := hf
  obtain ⟨r, hr1, ⟨cell, q1, q2, q3, q4⟩, -, -⟩ := (hH.2.2.2.2.1 _ _ _ hl).2.2.2 ci rfl
  have hr : r = (C, T, N) := Option.some.inj (hr1.symm.trans hc)
  subst hr
  obtain ⟨hSl, hfc, kC, hkC, hkind⟩ := hS.1.1 ci _ hc
  obtain ⟨cf, kf, fi, f, hi, hsl⟩ := hSl k hk
  refine W.getf cx.1 cx.2.1 cx.2.2.2.2.2.1 (cx.2.2.2.2.1 _ hlink) hi (u_facts hfc hkC (u_lays cx.2.2.2.2.1 hin hk) hi).1 q1 (by rw [q3]; exact fun h => by cases h) (v := j_fv io M ci a k) ?_ rfl rfl d kk
  rw [hsl, q4 k hk]
theorem J_getI {kd ix ci a : Nat} (k : Nat) (d : decode cc pc = .ok (.getfield ix, 3)) (hf : j_F y.cls ix ci k) (hkd : kd = 10 + ci) (hs : j_fs ci k = none) (h : J y cc nL ret fr lo em (pc + 3) ll (.inl (M a k) :: st) M X) : J y cc nL ret fr lo em pc ll (.inr (kd, 0, a) :: st) M X := by
  subst hkd
  intro r hr
  refine ⟨(h r hr).1, ?_⟩
  intro p l e s m args below meth c D aI aB H0 io Lv K0 mc ms H locs cells slots la cx hS hH hl hll hst hlo h1 h2
  rw [List.map_cons, j_sv (by omega)]
  refine j_getf cx hS hH d hf (j_live_h hst (by show 10 + ci ≠ 0; omega)) ?_
  have e0 : j_fv io M ci a k = j_val io (.inl (M a k)) := by unfold j_fv; rw [hs]; rfl
  rw [e0]
  exact (h r hr).2 p l e s m args below meth c D aI aB H0 io Lv K0 mc ms H locs cells slots la cx hS hH hl hll (j_live_c (j_live_i _) (j_live_t hst)) hlo h1 h2
theorem J_getR {kd ix ci a kd2 n2 off : Nat} (k : Nat) (d : decode cc pc = .ok (.getfield ix, 3)) (hf : j_F y.cls ix ci k) (hkd : kd = 10 + ci) (hs : j_fs ci k = some (kd2, n2, off, false)) (h0 : kd2 ≠ 0) (h : J y cc nL ret fr lo em (pc + 3) ll (.inr (kd2, n2, a + off) :: st) M X) : J y cc nL ret fr lo em pc ll (.inr (kd, 0, a) :: st) M X := by
  subst hkd
  intro r hr
  refine ⟨(h r hr).1, ?_⟩
  intro p l e s m args below meth c D aI aB H0 io Lv K0 mc ms H locs cells slots la cx hS hH hl hll hst hlo h1 h2
  have hLv : Lv (10 + ci) 0 a := j_live_h hst (by show 10 + ci ≠ 0; omega)
  rw [List.map_cons, j_sv (by omega)]
  refine j_getf cx hS hH d hf hLv ?_
  have e0 : j_fv io M ci a k = j_val io (.inr (kd2, n2, a + off)) := by unfold j_fv; rw [hs, j_sv h0]; simp
  rw [e0]
  have hlv2 : Lv kd2 n2 (a + off) := by
    obtain ⟨C, T, N, hc, hk, -, -⟩ := hf
    obtain ⟨r2, hr1, -, -, q⟩ := (hH.2.2.2.2.1 _ _ _ hLv).2.2.2 ci rfl
    have hr : r2 = (C, T, N) := Option.some.inj (hr1.symm.trans hc)
    subst hr
    exact q k hk _ hs (Or.inl rfl)
  exact (h r hr).2 p l e s m args below meth c D aI aB H0 io Lv K0 mc ms H locs cells slots la cx hS hH hl hll (j_live_c (fun _ => hlv2) (j_live_t hst)) hlo h1 h2
/-- a field that may be null: its flag is the memory's -/
theorem J_getN {kd ix ci a kd2 n2 off : Nat} (k : Nat) (d : decode cc pc = .ok (.getfield ix, 3)) (hf : j_F y.cls ix ci k) (hkd : kd = 10 + ci) (hs : j_fs ci k = some (kd2, n2, off, true)) (h0 : kd2 ≠ 0) (h : J y cc nL ret fr lo em (pc + 3) ll (.inr (if M a k = 0 then 0 else kd2, n2, a + off) :: st) M X) : J y cc nL ret fr lo em pc ll (.inr (kd, 0, a) :: st) M X := by
  subst hkd
  intro r hr
  refine ⟨(h r hr).1, ?_⟩
  intro p l e s m args below meth c D aI aB H0 io Lv K0 mc ms H locs cells slots la cx hS hH hl hll hst hlo h1 h2
  have hLv : Lv (10 + ci) 0 a := j_live_h hst (by show 10 + ci ≠ 0; omega)
  rw [List.map_cons, j_sv (by omega)]
  refine j_getf cx hS hH d hf hLv ?_
  have e0 : j_fv io M ci a k = j_val io (.inr (if M a k = 0 then 0 else kd2, n2, a + off)) := by
    unfold j_fv; rw [hs]
    by_cases hz : M a k = 0 <;> simp [j_val, hz, h0]
  rw [e0]
  have hlv2 : j_live Lv (.inr (if M a k = 0 then 0 else kd2, n2, a + off)) := by
    obtain ⟨C, T, N, hc, hk, -, -⟩ := hf
    obtain ⟨r2, hr1, -, -, q⟩ := (hH.2.2.2.2.1 _ _ _ hLv).2.2.2 ci rfl
    have hr : r2 = (C, T, N) := Option.some.inj (hr1.symm.trans hc)
    subst hr
    intro hne
    by_cases hz : M a k = 0
    · simp [hz] at hne
    · simp only [hz, if_false]
      exact q k hk _ hs (Or.inr hz)
  exact (h r hr).2 p l e s m args below meth c D aI aB H0 io Lv K0 mc ms H locs cells slots la cx hS hH hl hll (j_live_c hlv2 (j_live_t hst)) hlo h1 h2
theorem j_put {kd ix ci a : Nat} {v : Int32} {ty : FieldType} (k : Nat) (d : decode cc pc = .ok (.putfield ix, 3)) (hf : j_F y.cls ix ci k) (hp : j_FP ci k ty) (hn : narrow ty (.int v) = .int v) (hfit : fits ty (.int v) = true) (hkd : kd = 10 + ci) (hs : j_fs ci k = none) (h60 : ci ≠ 6) (h : J y cc nL ret fr lo em (pc + 3) ll st (mw M a k v) X) : J y cc nL ret fr lo em pc ll (.inl v :: .inr (kd, 0, a) :: st) M X := by
  subst hkd
  intro r hr
  refine ⟨(j_le_mw M a _ _).trans (h r hr).1, ?_⟩
  intro p l e s m args below meth c D aI aB H0 io Lv K0 mc ms H locs cells slots la cx hS hH hl hll hst hlo h1 h2
  have hLv : Lv (10 + ci) 0 a := j_live_h (j_live_t hst) (by show 10 + ci ≠ 0; omega)
  have ha0 : a ≠ 0 := fun e9 => by subst e9; have := hH.2.2.2.1 _ _ hLv; omega
  obtain ⟨C, T, N, hc, hk, hin, hlink⟩ := hf
  obtain ⟨C', T', N', ty0, hc', hty, hnm, hfin, hd⟩ := hp
  have e9 : (C', T', N') = (C, T, N) := Option.some.inj (hc'.symm.trans hc)
  cases e9
  obtain ⟨r2, hr1, ⟨cell, q1, q2, q3, q4⟩, hz, hch⟩ := (hH.2.2.2.2.1 _ _ _ hLv).2.2.2 ci rfl
  have hr9 : r2 = (C, T, N) := Option.some.inj (hr1.symm.trans hc)
  subst hr9
  have hap := va_apart (own := y.cls) cx.2.2.2.2.1 hin ty0 hty hnm hS.1 hc
  obtain ⟨hSl, hfc, kC, hkC, hkind⟩ := hS.1.1 ci _ hc
  obtain ⟨cf, kf, fi, f, hi, hsl⟩ := hSl k hk
  have hlay := cx.2.2.2.2.1 _ (hin _ (u_in_lay hk))
  unfold u_lay at hlay
  rw [if_neg (by rw [hfin]; decide)] at hlay
  have hst9 := (u_facts hfc hkC (u_lays cx.2.2.2.2.1 hin hk) hi).1
  have h6 := u_store hfc hkC hkind hlay hi hd hn hfit
  rw [List.map_cons, List.map_cons, j_sv (by omega)]
  refine W.putK cx.1 cx.2.1 (f := f) ⟨cx.2.2.2.2.2.1, cx.2.2.2.2.1 _ hlink, ⟨_, _, _, hi⟩, hst9⟩ (by rw [q2]; exact h6) q1 q3 (by rw [hsl]; exact k2_hasslot (q4 k hk)) rfl rfl d fun H1 e1 e2 e3 => ?_
  rw [hsl] at e1 ⊢
  refine (h r hr).2 p l e s m args below meth c D aI aB H0 io Lv K0 mc ms H1 (locs ++ [⟨io a, D.2 ci k⟩]) cells slots la cx hS (j_H_wr hH (Or.inr (by omega)) ha0 hLv hz e2 e3 (fun x hx => by funext j; simp [mw, hx]) ⟨by omega, by omega, by omega, fun ci' e' => ?_⟩) hl hll (j_live_t (j_live_t hst)) (j_locs hlo (fun q hq => by rw [List.mem_singleton.mp hq]; exact hz)) (by rw [j_cc_mw]; exact h1) (by rw [j_cs_mw]; exact h2)
  have e'' : ci' = ci := by omega
  subst e''
  refine ⟨_, hc, t_OB.to (V := updV (j_fv io M ci' a) k (.int v)) ⟨_, e1, q2, q3, t_set q4 hap hk (.int v)⟩ (fun j hj => ?_), hz, fun f9 hf9 g9 hg9 hh9 => hch f9 hf9 g9 hg9 ?_⟩
  · by_cases hjk : j = k
    · subst hjk
      simp [updV, j_fv, hs, mw, ha0]
    · have : mw M a k v a j = M a j := by simp [mw, hjk]
      simp only [updV, if_neg hjk]
      unfold j_fv
      rw [this]
  · have hne : f9 ≠ k := fun e9 => by subst e9; rw [hs] at hg9; cases hg9
    have : mw M a k v a f9 = M a f9 := by simp [mw, hne]
    rw [this] at hh9
    exact hh9
theorem J_putI {kd ix ci a : Nat} {v : Int32} (k : Nat) (d : decode cc pc = .ok (.putfield ix, 3)) (hf : j_F y.cls ix ci k) (hp : j_FP ci k .int) (hkd : kd = 10 + ci) (hs : j_fs ci k = none) (h60 : ci ≠ 6) (h : J y cc nL ret fr lo em (pc + 3) ll st (mw M a k v) X) : J y cc nL ret fr lo em pc ll (.inl v :: .inr (kd, 0, a) :: st) M X :=
  j_put k d hf hp rfl rfl hkd hs h60 h
theorem J_putZ {kd ix ci a : Nat} {v : Int32} (k : Nat) (d : decode cc pc = .ok (.putfield ix, 3)) (hf : j_F y.cls ix ci k) (hp : j_FP ci k .boolean) (hkd : kd = 10 + ci) (hs : j_fs ci k = none) (h60 : ci ≠ 6) (h : J y cc nL ret fr lo em (pc + 3) ll st (mw M a k v) X) : J y cc nL ret fr lo em pc ll (.inl v :: .inr (kd, 0, a) :: st) M (gz v X) := by
  intro r hr
  obtain ⟨hz, hr⟩ := gz_some hr
  exact j_put k d hf hp (by rcases hz with rfl | rfl <;> rfl) (by rcases hz with rfl | rfl <;> rfl) hkd hs h60 h r hr
theorem J_ifnn {g : Nat × Nat × Nat} {off : Int} {tgt : Nat} {A B : Option ρ} (d : decode cc pc = .ok (.ifnonnull off, 3)) (ht : (pc : Int) + off = (tgt : Int)) (ha : J y cc nL ret fr lo em tgt ll st M A) (hb : J y cc nL ret fr lo em (pc + 3) ll st M B) : J y cc nL ret fr lo em pc ll (.inr g :: st) M (if g.1 = 0 then B else A) := by
  intro r hr
  refine ⟨?_, ?_⟩
  · by_cases hc : g.1 = 0
    · rw [if_pos hc] at hr; exact (hb r hr).1
    · rw [if_neg hc] at hr; exact (ha r hr).1
  intro p l e s m args below meth c D aI aB H0 io Lv K0 mc ms H locs cells slots la cx hS hH hl hll hst hlo h1 h2
  by_cases hc : g.1 = 0
  · rw [if_pos hc] at hr
    have e9 : j_val io (.inr g) = .null := by simp [j_val, hc]
    rw [List.map_cons, e9]
    exact lv_ifnonnullN cx.1 cx.2.1 d ((hb r hr).2 p l e s m args below meth c D aI aB H0 io Lv K0 mc ms H locs cells slots la cx hS hH hl hll (j_live_t hst) hlo h1 h2)
  · rw [if_neg hc] at hr
    have e9 : j_val io (.inr g) = .ref (io g.2.2) := by simp [j_val, hc]
    rw [List.map_cons, e9]
    exact lv_ifnonnull cx.1 cx.2.1 d ht ((ha r hr).2 p l e s m args below meth c D aI aB H0 io Lv K0 mc ms H locs cells slots la cx hS hH hl hll (j_live_t hst) hlo h1 h2)
/-! returns -/
theorem J_iret {v : Int32} (d : decode cc pc = .ok (.ireturn, 1)) : J y cc nL (some .int) fr lo j_ei pc ll [.inl v] M (some (v, M)) := by
  intro r hr
  cases hr
  refine ⟨j_le.rfl, ?_⟩
  intro p l e s m args below meth c D aI aB H0 io Lv K0 mc ms H locs cells slots la cx hS hH hl hll hst hlo h1 h2
  refine W.widen (k := mc) (n := ms) (by simpa [j_ei] using h1) (by simpa [j_ei] using h2) ?_
  have hlocks := cx.2.2.2.2.2.2
  exact W.iret cx.1 cx.2.1 cx.2.2.1 (fun t ht hW => ⟨io, Lv, j_ext.rfl, by rw [ht]; exact hH, fun x hx => by cases hx; trivial, rfl⟩) hlo d
theorem J_zret {v : Int32} (d : decode cc pc = .ok (.ireturn, 1)) (hv : v = 0 ∨ v = 1) : J y cc nL (some .boolean) fr lo j_ei pc ll [.inl v] M (some (v, M)) := by
  intro r hr
  cases hr
  refine ⟨j_le.rfl, ?_⟩
  intro p l e s m args below meth c D aI aB H0 io Lv K0 mc ms H locs cells slots la cx hS hH hl hll hst hlo h1 h2
  refine W.widen (k := mc) (n := ms) (by simpa [j_ei] using h1) (by simpa [j_ei] using h2) ?_
  have hlocks := cx.2.2.2.2.2.2
  exact W.zret (ty := .boolean) cx.1 cx.2.1 cx.2.2.1 (by rcases hv with rfl | rfl <;> rfl) (fun t ht hW => ⟨io, Lv, j_ext.rfl, by rw [ht]; exact hH, fun x hx => by cases hx; trivial, rfl⟩) hlo d
theorem J_zretG {v : Int32} (d : decode cc pc = .ok (.ireturn, 1)) : J y cc nL (some .boolean) fr lo j_ei pc ll [.inl v] M (gz v (some (v, M))) := by
  intro r hr
  obtain ⟨hz, hr⟩ := gz_some hr
  exact J_zret d hz r hr
theorem J_vret (d : decode cc pc = .ok (.return_, 1)) : J y cc nL none fr lo j_ev pc ll [] M (some M) := by
  intro r hr
  cases hr
  refine ⟨j_le.rfl, ?_⟩
  intro p l e s m args below meth c D aI aB H0 io Lv K0 mc ms H locs cells slots la cx hS hH hl hll hst hlo h1 h2
  refine W.widen (k := mc) (n := ms) (by simpa [j_ev] using h1) (by simpa [j_ev] using h2) ?_
  have hlocks := cx.2.2.2.2.2.2
  exact W.vret cx.1 cx.2.1 cx.2.2.1 (fun t ht hW => ⟨io, Lv, j_ext.rfl, by rw [ht]; exact hH, fun x hx => (by cases hx), rfl⟩) hlo d
end JR
