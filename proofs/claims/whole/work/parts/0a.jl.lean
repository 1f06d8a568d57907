/-- the judgement, with a long in the locals 1 and 2 and bs below the stack: from pc, locals ll, stack st and memory M the method comes to its end with what X tells (nothing is said where X is none) -/
def J2 {ρ : Type} (w : Int64) (bs : List Value) (y : MethodName) (cc : ByteArray) (nL : Nat) (ret : Option FieldType) (fr lo : Nat) (em : ρ → Option j_V × j_M) (pc : Nat) (ll : List (Nat × j_V)) (st : List j_V) (M : j_M) (X : Option ρ) : Prop :=
  ∀ r : ρ, X = some r → j_le M (em r).2 ∧ ∀ (p : Program) (l : Launch) (e : Env) (s : State) (m : MethodId) (args : Array Value) (below : List Frame) (meth : Method) (c : Code) (D : va_G) (aI aB : ClassId) (H0 : Heap) (io : Nat → Nat) (Lv : j_L) (K0 : j_M) (mc ms : Nat) (H : Heap) (locs : List Loc) (cells slots : Nat) (la : Array Slot),
    j_Cx y cc nL ret p s m args meth c → j_S D aI aB H0 io Lv K0 s → j_H D aI aB H0 io Lv K0 M H → lv_has la nL ((1, .long w) :: j_lm io ll) → (∀ q ∈ ll, j_live Lv q.2) → (∀ x ∈ st, j_live Lv x) → (∀ q ∈ locs, H0.size ≤ q.base) → cells + j_cc (em r).2 ≤ mc + j_cc M → slots + j_cs (em r).2 ≤ ms + j_cs M →
    W p l e { frames := fr, cells := mc, slots := ms, locals := lo } s m args below meth c H locs cells slots (MQ below (j_Q D aI aB H0 io Lv K0 (em r)) args s mc ms (fun q => H0.size ≤ q)) (F0 m pc la (st.map (j_val io) ++ bs))
theorem j2_lm_at {io : Nat → Nat} {w : Int64} {ll : List (Nat × j_V)} {la : Array Slot} {nL k i : Nat} {x : j_V} (hl : lv_has la nL ((1, .long w) :: j_lm io ll)) (hk : ll[k]? = some (i, x)) : la[i]? = some (.val (j_val io x)) :=
  lv_at hl (k + 1) (by unfold j_lm; rw [List.getElem?_cons_succ, List.getElem?_map, hk]; rfl)
theorem j2_lm_set {io : Nat → Nat} {w : Int64} {ll ll' : List (Nat × j_V)} {i : Nat} {x : j_V} (h1 : i ≠ 1) (h2 : i ≠ 2) (h : (i, x) :: ll.filter (fun q => !(q.1 == i)) = ll') : (i, j_val io x) :: ((1, Value.long w) :: j_lm io ll).filter (fun q => !(q.1 == i) && !(q.1 + 1 == i && q.2.category == 2)) = (i, j_val io x) :: (1, .long w) :: j_lm io (ll.filter (fun q => !(q.1 == i))) := by
  have e1 : (!((1 : Nat) == i) && !((1 : Nat) + 1 == i && (Value.long w).category == 2)) = true := by
    have a1 : ((1 : Nat) == i) = false := by simp; omega
    have a2 : ((1 : Nat) + 1 == i) = false := by simp; omega
    rw [a1, a2]; rfl
  have e2 := j_lm_set (io := io) (x := x) (i := i) (ll := ll) rfl
  rw [List.filter_cons_of_pos (p := fun q : Nat × Value => !(q.1 == i) && !(q.1 + 1 == i && q.2.category == 2)) (a := (1, Value.long w)) e1]
  unfold j_lm at e2 ⊢
  rw [List.map_cons] at e2
  exact congrArg _ (congrArg _ (List.cons.inj e2).2)
theorem j2_lm_swap {io : Nat → Nat} {w : Int64} {ll ll' : List (Nat × j_V)} {la : Array Slot} {nL i : Nat} {x : j_V} (h : (i, x) :: ll.filter (fun q => !(q.1 == i)) = ll') (hl : lv_has la nL ((i, j_val io x) :: (1, .long w) :: j_lm io (ll.filter (fun q => !(q.1 == i))))) : lv_has la nL ((1, .long w) :: j_lm io ll') := by
  subst h
  refine ⟨hl.1, hl.2.1, fun q hq => hl.2.2 q ?_⟩
  unfold j_lm at hq ⊢
  rw [List.map_cons] at hq
  simp only [List.mem_cons] at hq ⊢
  rcases hq with h | h | h
  · exact Or.inr (Or.inl h)
  · exact Or.inl h
  · exact Or.inr (Or.inr h)
section JL
variable {ρ : Type} {w : Int64} {bs : List Value} {y : MethodName} {cc : ByteArray} {nL : Nat} {ret : Option FieldType} {fr lo : Nat} {em : ρ → Option j_V × j_M} {pc q : Nat} {ll : List (Nat × j_V)} {st : List j_V} {M : j_M} {X : Option ρ} {XI : Int32 → Option ρ} {XM : j_M → Option ρ}
theorem J2_sub (ks : List Nat) {ll' : List (Nat × j_V)} (h : J2 w bs y cc nL ret fr lo em pc ll' st M X) (hk : ks.filterMap (fun k => ll[k]?) = ll') : J2 w bs y cc nL ret fr lo em pc ll st M X := by
  intro r hr
  refine ⟨(h r hr).1, ?_⟩
  intro p l e s m args below meth c D aI aB H0 io Lv K0 mc ms H locs cells slots la cx hS hH hl hll hst hlo h1 h2
  have hm : ∀ q ∈ ll', q ∈ ll := fun q hq => by
    subst hk
    obtain ⟨i, -, hi⟩ := List.mem_filterMap.mp hq
    exact List.mem_of_getElem? hi
  refine (h r hr).2 p l e s m args below meth c D aI aB H0 io Lv K0 mc ms H locs cells slots la cx hS hH ⟨hl.1, hl.2.1, fun q hq => ?_⟩ (fun q hq => hll q (hm q hq)) hst hlo h1 h2
  rcases List.mem_cons.mp hq with rfl | hq
  · exact hl.2.2 _ List.mem_cons_self
  obtain ⟨q', hq', rfl⟩ := List.mem_map.mp hq
  exact hl.2.2 _ (List.mem_cons_of_mem _ (List.mem_map.mpr ⟨q', hm q' hq', rfl⟩))
theorem J2_none : J2 w bs y cc nL ret fr lo em pc ll st M (none : Option ρ) := fun r hr => by cases hr
theorem J2_iconst {n : Int} {v : Int32} (d : decode cc pc = .ok (.iconst n, 1)) (hv : Int32.ofInt n = v) (h : J2 w bs y cc nL ret fr lo em (pc + 1) ll (.inl v :: st) M X) : J2 w bs y cc nL ret fr lo em pc ll (st) M X := by
  intro r hr
  refine ⟨(h r hr).1, ?_⟩
  intro p l e s m args below meth c D aI aB H0 io Lv K0 mc ms H locs cells slots la cx hS hH hl hll hst hlo h1 h2
  refine lv_iconst cx.1 cx.2.1 d hv ?_
  exact (h r hr).2 p l e s m args below meth c D aI aB H0 io Lv K0 mc ms H locs cells slots la cx hS hH hl hll (j_live_c (j_live_i _) hst) hlo h1 h2
theorem J2_bipush {n : Int} {v : Int32} (d : decode cc pc = .ok (.bipush n, 2)) (hv : (Int8.ofInt n).toInt32 = v) (h : J2 w bs y cc nL ret fr lo em (pc + 2) ll (.inl v :: st) M X) : J2 w bs y cc nL ret fr lo em pc ll (st) M X := by
  intro r hr
  refine ⟨(h r hr).1, ?_⟩
  intro p l e s m args below meth c D aI aB H0 io Lv K0 mc ms H locs cells slots la cx hS hH hl hll hst hlo h1 h2
  refine lv_bipush cx.1 cx.2.1 d hv ?_
  exact (h r hr).2 p l e s m args below meth c D aI aB H0 io Lv K0 mc ms H locs cells slots la cx hS hH hl hll (j_live_c (j_live_i _) hst) hlo h1 h2
theorem J2_iload_n {f : Fin 4} {i : Nat} {x : Int32} (k : Nat) (d : decode cc pc = .ok (.iload_n f, 1)) (hi : (f : Nat) = i) (hk : ll[k]? = some (i, .inl x)) (h : J2 w bs y cc nL ret fr lo em (pc + 1) ll (.inl x :: st) M X) : J2 w bs y cc nL ret fr lo em pc ll (st) M X := by
  intro r hr
  refine ⟨(h r hr).1, ?_⟩
  intro p l e s m args below meth c D aI aB H0 io Lv K0 mc ms H locs cells slots la cx hS hH hl hll hst hlo h1 h2
  refine lv_iload_n cx.1 cx.2.1 d hi (j2_lm_at hl hk) ?_
  exact (h r hr).2 p l e s m args below meth c D aI aB H0 io Lv K0 mc ms H locs cells slots la cx hS hH hl hll (j_live_c (j_live_i _) hst) hlo h1 h2
theorem J2_iadd {x z : Int32} (d : decode cc pc = .ok (.iadd, 1)) (h : J2 w bs y cc nL ret fr lo em (pc + 1) ll (.inl (x + z) :: st) M X) : J2 w bs y cc nL ret fr lo em pc ll (.inl z :: .inl x :: st) M X := by
  intro r hr
  refine ⟨(h r hr).1, ?_⟩
  intro p l e s m args below meth c D aI aB H0 io Lv K0 mc ms H locs cells slots la cx hS hH hl hll hst hlo h1 h2
  refine lv_iadd cx.1 cx.2.1 d ?_
  exact (h r hr).2 p l e s m args below meth c D aI aB H0 io Lv K0 mc ms H locs cells slots la cx hS hH hl hll (j_live_c (j_live_i _) (j_live_t (j_live_t hst))) hlo h1 h2
theorem J2_dup {x : j_V} (d : decode cc pc = .ok (.dup, 1)) (h : J2 w bs y cc nL ret fr lo em (pc + 1) ll (x :: x :: st) M X) : J2 w bs y cc nL ret fr lo em pc ll (x :: st) M X := by
  intro r hr
  refine ⟨(h r hr).1, ?_⟩
  intro p l e s m args below meth c D aI aB H0 io Lv K0 mc ms H locs cells slots la cx hS hH hl hll hst hlo h1 h2
  refine lv_dup cx.1 cx.2.1 d (j_val_cat io x) ?_
  exact (h r hr).2 p l e s m args below meth c D aI aB H0 io Lv K0 mc ms H locs cells slots la cx hS hH hl hll (j_live_c (j_live_h hst) hst) hlo h1 h2
theorem J2_aload_n {f : Fin 4} {i : Nat} {g : Nat × Nat × Nat} (k : Nat) (d : decode cc pc = .ok (.aload_n f, 1)) (hi : (f : Nat) = i) (hk : ll[k]? = some (i, .inr g)) (h : J2 w bs y cc nL ret fr lo em (pc + 1) ll (.inr g :: st) M X) : J2 w bs y cc nL ret fr lo em pc ll st M X := by
  intro r hr
  refine ⟨(h r hr).1, ?_⟩
  intro p l e s m args below meth c D aI aB H0 io Lv K0 mc ms H locs cells slots la cx hS hH hl hll hst hlo h1 h2
  have hat := j2_lm_at hl hk
  have K := (h r hr).2 p l e s m args below meth c D aI aB H0 io Lv K0 mc ms H locs cells slots la cx hS hH hl hll (j_live_c (hll _ (List.mem_of_getElem? hk)) hst) hlo h1 h2
  by_cases hz : g.1 = 0
  · have e9 : j_val io (.inr g) = .null := by simp [j_val, hz]
    rw [List.map_cons, e9] at K
    rw [e9] at hat
    exact lv_aload_nN cx.1 cx.2.1 d hi hat K
  · have e9 : j_val io (.inr g) = .ref (io g.2.2) := by simp [j_val, hz]
    rw [List.map_cons, e9] at K
    rw [e9] at hat
    exact lv_aload_n cx.1 cx.2.1 d hi hat K
theorem J2_istore_n {f : Fin 4} {i : Nat} {x : Int32} {ll' : List (Nat × j_V)} (d : decode cc pc = .ok (.istore_n f, 1)) (hi : (f : Nat) = i) (hn : i < nL) (hi1 : i ≠ 1) (hi2 : i ≠ 2) (hs : (i, .inl x) :: ll.filter (fun q => !(q.1 == i)) = ll') (h : J2 w bs y cc nL ret fr lo em (pc + 1) ll' st M X) : J2 w bs y cc nL ret fr lo em pc ll (.inl x :: st) M X := by
  intro r hr
  refine ⟨(h r hr).1, ?_⟩
  intro p l e s m args below meth c D aI aB H0 io Lv K0 mc ms H locs cells slots la cx hS hH hl hll hst hlo h1 h2
  refine lv_istore_n cx.1 cx.2.1 d hi hl hn (j2_lm_set (io := io) hi1 hi2 hs) (fun la' hl' => ?_)
  exact (h r hr).2 p l e s m args below meth c D aI aB H0 io Lv K0 mc ms H locs cells slots la' cx hS hH (j2_lm_swap hs hl') (j_ll_set hs (j_live_i _) hll) (j_live_t hst) hlo h1 h2
theorem J2_iinc {i : Nat} {n : Int} {x v : Int32} {ll' : List (Nat × j_V)} (k : Nat) (d : decode cc pc = .ok (.iinc i n, 3)) (hk : ll[k]? = some (i, .inl x)) (hv : x + Int32.ofInt n = v) (hn : i < nL) (hi1 : i ≠ 1) (hi2 : i ≠ 2) (hs : (i, .inl v) :: ll.filter (fun q => !(q.1 == i)) = ll') (h : J2 w bs y cc nL ret fr lo em (pc + 3) ll' st M X) : J2 w bs y cc nL ret fr lo em pc ll st M X := by
  intro r hr
  refine ⟨(h r hr).1, ?_⟩
  intro p l e s m args below meth c D aI aB H0 io Lv K0 mc ms H locs cells slots la cx hS hH hl hll hst hlo h1 h2
  refine lv_iinc cx.1 cx.2.1 (k := k + 1) d hl (by unfold j_lm; rw [List.getElem?_cons_succ, List.getElem?_map, hk]; rfl) hv hn (j2_lm_set (io := io) hi1 hi2 hs) (fun la' hl' => ?_)
  exact (h r hr).2 p l e s m args below meth c D aI aB H0 io Lv K0 mc ms H locs cells slots la' cx hS hH (j2_lm_swap hs hl') (j_ll_set hs (j_live_i _) hll) hst hlo h1 h2
theorem J2_goto {off : Int} {tgt : Nat} (d : decode cc pc = .ok (.goto off, 3)) (ht : (pc : Int) + off = (tgt : Int)) (h : J2 w bs y cc nL ret fr lo em tgt ll st M X) : J2 w bs y cc nL ret fr lo em pc ll st M X := by
  intro r hr
  refine ⟨(h r hr).1, ?_⟩
  intro p l e s m args below meth c D aI aB H0 io Lv K0 mc ms H locs cells slots la cx hS hH hl hll hst hlo h1 h2
  refine lv_goto cx.1 cx.2.1 d ht ?_
  exact (h r hr).2 p l e s m args below meth c D aI aB H0 io Lv K0 mc ms H locs cells slots la cx hS hH hl hll hst hlo h1 h2
theorem J2_if_eq {x : Int32} {off : Int} {tgt : Nat} {A B : Option ρ} (d : decode cc pc = .ok (.ifCond .eq off, 3)) (ht : (pc : Int) + off = (tgt : Int)) (ha : J2 w bs y cc nL ret fr lo em tgt ll st M A) (hb : J2 w bs y cc nL ret fr lo em (pc + 3) ll st M B) : J2 w bs y cc nL ret fr lo em pc ll (.inl x :: st) M (if x = 0 then A else B) := by
  intro r hr
  refine ⟨?_, ?_⟩
  · by_cases hc : x = 0
    · rw [if_pos hc] at hr; exact (ha r hr).1
    · rw [if_neg hc] at hr; exact (hb r hr).1
  intro p l e s m args below meth c D aI aB H0 io Lv K0 mc ms H locs cells slots la cx hS hH hl hll hst hlo h1 h2
  refine lv_if_eq cx.1 cx.2.1 d ht (fun hc => ?_) (fun hc => ?_)
  · rw [if_pos hc] at hr
    exact (ha r hr).2 p l e s m args below meth c D aI aB H0 io Lv K0 mc ms H locs cells slots la cx hS hH hl hll (j_live_t hst) hlo h1 h2
  · rw [if_neg hc] at hr
    exact (hb r hr).2 p l e s m args below meth c D aI aB H0 io Lv K0 mc ms H locs cells slots la cx hS hH hl hll (j_live_t hst) hlo h1 h2
theorem J2_icmp_ge {x z : Int32} {off : Int} {tgt : Nat} {A B : Option ρ} (d : decode cc pc = .ok (.if_icmp .ge off, 3)) (ht : (pc : Int) + off = (tgt : Int)) (ha : J2 w bs y cc nL ret fr lo em tgt ll st M A) (hb : J2 w bs y cc nL ret fr lo em (pc + 3) ll st M B) : J2 w bs y cc nL ret fr lo em pc ll (.inl z :: .inl x :: st) M (if z ≤ x then A else B) := by
  intro r hr
  refine ⟨?_, ?_⟩
  · by_cases hc : z ≤ x
    · rw [if_pos hc] at hr; exact (ha r hr).1
    · rw [if_neg hc] at hr; exact (hb r hr).1
  intro p l e s m args below meth c D aI aB H0 io Lv K0 mc ms H locs cells slots la cx hS hH hl hll hst hlo h1 h2
  refine lv_icmp_ge cx.1 cx.2.1 d ht (fun hc => ?_) (fun hc => ?_)
  · rw [if_pos hc] at hr
    exact (ha r hr).2 p l e s m args below meth c D aI aB H0 io Lv K0 mc ms H locs cells slots la cx hS hH hl hll (j_live_t (j_live_t hst)) hlo h1 h2
  · rw [if_neg hc] at hr
    exact (hb r hr).2 p l e s m args below meth c D aI aB H0 io Lv K0 mc ms H locs cells slots la cx hS hH hl hll (j_live_t (j_live_t hst)) hlo h1 h2
theorem J2_icmp_gt {x z : Int32} {off : Int} {tgt : Nat} {A B : Option ρ} (d : decode cc pc = .ok (.if_icmp .gt off, 3)) (ht : (pc : Int) + off = (tgt : Int)) (ha : J2 w bs y cc nL ret fr lo em tgt ll st M A) (hb : J2 w bs y cc nL ret fr lo em (pc + 3) ll st M B) : J2 w bs y cc nL ret fr lo em pc ll (.inl z :: .inl x :: st) M (if z < x then A else B) := by
  intro r hr
  refine ⟨?_, ?_⟩
  · by_cases hc : z < x
    · rw [if_pos hc] at hr; exact (ha r hr).1
    · rw [if_neg hc] at hr; exact (hb r hr).1
  intro p l e s m args below meth c D aI aB H0 io Lv K0 mc ms H locs cells slots la cx hS hH hl hll hst hlo h1 h2
  refine lv_icmp_gt cx.1 cx.2.1 d ht (fun hc => ?_) (fun hc => ?_)
  · rw [if_pos hc] at hr
    exact (ha r hr).2 p l e s m args below meth c D aI aB H0 io Lv K0 mc ms H locs cells slots la cx hS hH hl hll (j_live_t (j_live_t hst)) hlo h1 h2
  · rw [if_neg hc] at hr
    exact (hb r hr).2 p l e s m args below meth c D aI aB H0 io Lv K0 mc ms H locs cells slots la cx hS hH hl hll (j_live_t (j_live_t hst)) hlo h1 h2
theorem J2_if_ne {x : Int32} {off : Int} {tgt : Nat} {A B : Option ρ} (d : decode cc pc = .ok (.ifCond .ne off, 3)) (ht : (pc : Int) + off = (tgt : Int)) (ha : J2 w bs y cc nL ret fr lo em tgt ll st M A) (hb : J2 w bs y cc nL ret fr lo em (pc + 3) ll st M B) : J2 w bs y cc nL ret fr lo em pc ll (.inl x :: st) M (if x = 0 then B else A) := by
  intro r hr
  refine ⟨?_, ?_⟩
  · by_cases hc : x = 0
    · rw [if_pos hc] at hr; exact (hb r hr).1
    · rw [if_neg hc] at hr; exact (ha r hr).1
  intro p l e s m args below meth c D aI aB H0 io Lv K0 mc ms H locs cells slots la cx hS hH hl hll hst hlo h1 h2
  refine lv_if_ne cx.1 cx.2.1 d ht (fun hc => ?_) (fun hc => ?_)
  · rw [if_neg hc] at hr
    exact (ha r hr).2 p l e s m args below meth c D aI aB H0 io Lv K0 mc ms H locs cells slots la cx hS hH hl hll (j_live_t hst) hlo h1 h2
  · rw [if_pos hc] at hr
    exact (hb r hr).2 p l e s m args below meth c D aI aB H0 io Lv K0 mc ms H locs cells slots la cx hS hH hl hll (j_live_t hst) hlo h1 h2
theorem J2_iald {i : Int32} {n a : Nat} (d : decode cc pc = .ok (.iaload, 1)) (h : J2 w bs y cc nL ret fr lo em (pc + 1) ll (.inl (M a i.toNatClampNeg) :: st) M X) : J2 w bs y cc nL ret fr lo em pc ll (.inl i :: .inr (1, n, a) :: st) M (gd i n X) := by
  intro r hr
  obtain ⟨hin, hr⟩ := gd_some hr
  refine ⟨(h r hr).1, ?_⟩
  intro p l e s m args below meth c D aI aB H0 io Lv K0 mc ms H locs cells slots la cx hS hH hl hll hst hlo h1 h2
  have hA := j_arr hH (hst (.inr (1, n, a)) (by simp) (Nat.succ_ne_zero _))
  have hlt : i.toNatClampNeg < n := Nat.not_le.mp fun q => hin (Or.inr q)
  rw [List.map_cons, List.map_cons, j_sv (by decide)]
  exact W.iald (v := .int (M a i.toNatClampNeg)) cx.1 cx.2.1 hA.1 ((hS.1.2 0 _ rfl).1 n (fun j => .int (M a j))) (fun q => by cases q) (by rw [arrV_size]; exact hin) (by rw [arrV_read _ _ hlt]) rfl rfl d
    ((h r hr).2 p l e s m args below meth c D aI aB H0 io Lv K0 mc ms H locs cells slots la cx hS hH hl hll (j_live_c (j_live_i _) (j_live_t (j_live_t hst))) hlo h1 h2)
theorem J2_getI {kd ix ci a : Nat} (k : Nat) (d : decode cc pc = .ok (.getfield ix, 3)) (hf : j_F y.cls ix ci k) (hkd : kd = 10 + ci) (hs : j_fs ci k = none) (h : J2 w bs y cc nL ret fr lo em (pc + 3) ll (.inl (M a k) :: st) M X) : J2 w bs y cc nL ret fr lo em pc ll (.inr (kd, 0, a) :: st) M X := by
  subst hkd
  intro r hr
  refine ⟨(h r hr).1, ?_⟩
  intro p l e s m args below meth c D aI aB H0 io Lv K0 mc ms H locs cells slots la cx hS hH hl hll hst hlo h1 h2
  rw [List.map_cons, j_sv (by omega)]
  refine j_getf cx hS hH d hf (j_live_h hst (by show 10 + ci ≠ 0; omega)) ?_
  have e0 : j_fv io M ci a k = j_val io (.inl (M a k)) := by unfold j_fv; rw [hs]; rfl
  rw [e0]
  exact (h r hr).2 p l e s m args below meth c D aI aB H0 io Lv K0 mc ms H locs cells slots la cx hS hH hl hll (j_live_c (j_live_i _) (j_live_t hst)) hlo h1 h2
theorem J2_getR {kd ix ci a kd2 n2 off : Nat} (k : Nat) (d : decode cc pc = .ok (.getfield ix, 3)) (hf : j_F y.cls ix ci k) (hkd : kd = 10 + ci) (hs : j_fs ci k = some (kd2, n2, off, false)) (h0 : kd2 ≠ 0) (h : J2 w bs y cc nL ret fr lo em (pc + 3) ll (.inr (kd2, n2, a + off) :: st) M X) : J2 w bs y cc nL ret fr lo em pc ll (.inr (kd, 0, a) :: st) M X := by
  subst hkd
  intro r hr
  refine ⟨(h r hr).1, ?_⟩
  intro p l e s m args below meth c D aI aB H0 io Lv K0 mc ms H locs cells slots la cx hS hH hl hll hst hlo h1 h2
  have hLv : Lv (10 + ci) 0 a := j_live_h hst (by show 10 + ci ≠ 0; omega)
  rw [List.map_cons, j_sv (by omega)]
  refine j_getf cx hS hH d hf hLv ?_
  have e0 : j_fv io M ci a k = j_val io (.inr (kd2, n2, a + off)) := by unfold j_fv; rw [hs, j_sv h0]; simp
  rw [e0]
  have hlv2 : Lv kd2 n2 (a + off) := by
    obtain ⟨C, T, N, hc, hk, -, -⟩ := hf
    obtain ⟨r2, hr1, -, -, q⟩ := (hH.2.2.2.2.1 _ _ _ hLv).2.2.2 ci rfl
    have hr : r2 = (C, T, N) := Option.some.inj (hr1.symm.trans hc)
    subst hr
    exact q k hk _ hs (Or.inl rfl)
  exact (h r hr).2 p l e s m args below meth c D aI aB H0 io Lv K0 mc ms H locs cells slots la cx hS hH hl hll (j_live_c (fun _ => hlv2) (j_live_t hst)) hlo h1 h2
theorem j2_put {kd ix ci a : Nat} {v : Int32} {ty : FieldType} (k : Nat) (d : decode cc pc = .ok (.putfield ix, 3)) (hf : j_F y.cls ix ci k) (hp : j_FP ci k ty) (hn : narrow ty (.int v) = .int v) (hfit : fits ty (.int v) = true) (hkd : kd = 10 + ci) (hs : j_fs ci k = none) (h60 : ci ≠ 6) (h : J2 w bs y cc nL ret fr lo em (pc + 3) ll st (mw M a k v) X) : J2 w bs y cc nL ret fr lo em pc ll (.inl v :: .inr (kd, 0, a) :: st) M X := by
  subst hkd
  intro r hr
  refine ⟨(j_le_mw M a _ _).trans (h r hr).1, ?_⟩
  intro p l e s m args below meth c D aI aB H0 io Lv K0 mc ms H locs cells slots la cx hS hH hl hll hst hlo h1 h2
  have hLv : Lv (10 + ci) 0 a := j_live_h (j_live_t hst) (by show 10 + ci ≠ 0; omega)
  have ha0 : a ≠ 0 := fun e9 => by subst e9; have := hH.2.2.2.1 _ _ hLv; omega
  obtain ⟨C, T, N, hc, hk, hin, hlink⟩ := hf
  obtain ⟨C', T', N', ty0, hc', hty, hnm, hfin, hd⟩ := hp
  have e9 : (C', T', N') = (C, T, N) := Option.some.inj (hc'.symm.trans hc)
  cases e9
  obtain ⟨r2, hr1, ⟨cell, q1, q2, q3, q4⟩, hz, hch⟩ := (hH.2.2.2.2.1 _ _ _ hLv).2.2.2 ci rfl
  have hr9 : r2 = (C, T, N) := Option.some.inj (hr1.symm.trans hc)
  subst hr9
  have hap := va_apart (own := y.cls) cx.2.2.2.2.1 hin ty0 hty hnm hS.1 hc
  obtain ⟨hSl, hfc, kC, hkC, hkind⟩ := hS.1.1 ci _ hc
  obtain ⟨cf, kf, fi, f, hi, hsl⟩ := hSl k hk
  have hlay := cx.2.2.2.2.1 _ (hin _ (u_in_lay hk))
  unfold u_lay at hlay
  rw [if_neg (by rw [hfin]; decide)] at hlay
  have hst9 := (u_facts hfc hkC (u_lays cx.2.2.2.2.1 hin hk) hi).1
  have h6 := u_store hfc hkC hkind hlay hi hd hn hfit
  rw [List.map_cons, List.map_cons, j_sv (by omega)]
  refine W.putK cx.1 cx.2.1 (f := f) ⟨cx.2.2.2.2.2.1, cx.2.2.2.2.1 _ hlink, ⟨_, _, _, hi⟩, hst9⟩ (by rw [q2]; exact h6) q1 q3 (by rw [hsl]; exact k2_hasslot (q4 k hk)) rfl rfl d fun H1 e1 e2 e3 => ?_
  rw [hsl] at e1 ⊢
  refine (h r hr).2 p l e s m args below meth c D aI aB H0 io Lv K0 mc ms H1 (locs ++ [⟨io a, D.2 ci k⟩]) cells slots la cx hS (j_H_wr hH (Or.inr (by omega)) ha0 hLv hz e2 e3 (fun x hx => by funext j; simp [mw, hx]) ⟨by omega, by omega, by omega, fun ci' e' => ?_⟩) hl hll (j_live_t (j_live_t hst)) (j_locs hlo (fun q hq => by rw [List.mem_singleton.mp hq]; exact hz)) (by rw [j_cc_mw]; exact h1) (by rw [j_cs_mw]; exact h2)
  have e'' : ci' = ci := by omega
  subst e''
  refine ⟨_, hc, t_OB.to (V := updV (j_fv io M ci' a) k (.int v)) ⟨_, e1, q2, q3, t_set q4 hap hk (.int v)⟩ (fun j hj => ?_), hz, fun f9 hf9 g9 hg9 hh9 => hch f9 hf9 g9 hg9 ?_⟩
  · by_cases hjk : j = k
    · subst hjk
      simp [updV, j_fv, hs, mw, ha0]
    · have : mw M a k v a j = M a j := by simp [mw, hjk]
      simp only [updV, if_neg hjk]
      unfold j_fv
      rw [this]
  · have hne : f9 ≠ k := fun e9 => by subst e9; rw [hs] at hg9; cases hg9
    have : mw M a k v a f9 = M a f9 := by simp [mw, hne]
    rw [this] at hh9
    exact hh9
theorem J2_putI {kd ix ci a : Nat} {v : Int32} (k : Nat) (d : decode cc pc = .ok (.putfield ix, 3)) (hf : j_F y.cls ix ci k) (hp : j_FP ci k .int) (hkd : kd = 10 + ci) (hs : j_fs ci k = none) (h60 : ci ≠ 6) (h : J2 w bs y cc nL ret fr lo em (pc + 3) ll st (mw M a k v) X) : J2 w bs y cc nL ret fr lo em pc ll (.inl v :: .inr (kd, 0, a) :: st) M X :=
  j2_put k d hf hp rfl rfl hkd hs h60 h
theorem K2_iconst {n : Int} {v : Int32} (d : decode cc pc = .ok (.iconst n, 1)) (hv : Int32.ofInt n = v) (hq : pc + 1 = q) (h : J2 w bs y cc nL ret fr lo em q ll (.inl v :: st) M X) : J2 w bs y cc nL ret fr lo em pc ll (st) M X := by subst hq; exact J2_iconst d hv h
theorem K2_bipush {n : Int} {v : Int32} (d : decode cc pc = .ok (.bipush n, 2)) (hv : (Int8.ofInt n).toInt32 = v) (hq : pc + 2 = q) (h : J2 w bs y cc nL ret fr lo em q ll (.inl v :: st) M X) : J2 w bs y cc nL ret fr lo em pc ll (st) M X := by subst hq; exact J2_bipush d hv h
theorem K2_iload_n {f : Fin 4} {i : Nat} {x : Int32} (k : Nat) (d : decode cc pc = .ok (.iload_n f, 1)) (hi : (f : Nat) = i) (hk : ll[k]? = some (i, .inl x)) (hq : pc + 1 = q) (h : J2 w bs y cc nL ret fr lo em q ll (.inl x :: st) M X) : J2 w bs y cc nL ret fr lo em pc ll (st) M X := by subst hq; exact J2_iload_n k d hi hk h
theorem K2_iadd {x z : Int32} (d : decode cc pc = .ok (.iadd, 1)) (hq : pc + 1 = q) (h : J2 w bs y cc nL ret fr lo em q ll (.inl (x + z) :: st) M X) : J2 w bs y cc nL ret fr lo em pc ll (.inl z :: .inl x :: st) M X := by subst hq; exact J2_iadd d h
theorem K2_dup {x : j_V} (d : decode cc pc = .ok (.dup, 1)) (hq : pc + 1 = q) (h : J2 w bs y cc nL ret fr lo em q ll (x :: x :: st) M X) : J2 w bs y cc nL ret fr lo em pc ll (x :: st) M X := by subst hq; exact J2_dup d h
theorem K2_aload_n {f : Fin 4} {i : Nat} {g : Nat × Nat × Nat} (k : Nat) (d : decode cc pc = .ok (.aload_n f, 1)) (hi : (f : Nat) = i) (hk : ll[k]? = some (i, .inr g)) (hq : pc + 1 = q) (h : J2 w bs y cc nL ret fr lo em q ll (.inr g :: st) M X) : J2 w bs y cc nL ret fr lo em pc ll st M X := by subst hq; exact J2_aload_n k d hi hk h
theorem K2_istore_n {f : Fin 4} {i : Nat} {x : Int32} {ll' : List (Nat × j_V)} (d : decode cc pc = .ok (.istore_n f, 1)) (hi : (f : Nat) = i) (hn : i < nL) (hi1 : i ≠ 1) (hi2 : i ≠ 2) (hs : (i, .inl x) :: ll.filter (fun q => !(q.1 == i)) = ll') (hq : pc + 1 = q) (h : J2 w bs y cc nL ret fr lo em q ll' st M X) : J2 w bs y cc nL ret fr lo em pc ll (.inl x :: st) M X := by subst hq; exact J2_istore_n d hi hn hi1 hi2 hs h
theorem K2_iinc {i : Nat} {n : Int} {x v : Int32} {ll' : List (Nat × j_V)} (k : Nat) (d : decode cc pc = .ok (.iinc i n, 3)) (hk : ll[k]? = some (i, .inl x)) (hv : x + Int32.ofInt n = v) (hn : i < nL) (hi1 : i ≠ 1) (hi2 : i ≠ 2) (hs : (i, .inl v) :: ll.filter (fun q => !(q.1 == i)) = ll') (hq : pc + 3 = q) (h : J2 w bs y cc nL ret fr lo em q ll' st M X) : J2 w bs y cc nL ret fr lo em pc ll st M X := by subst hq; exact J2_iinc k d hk hv hn hi1 hi2 hs h
theorem K2_if_eq {x : Int32} {off : Int} {tgt : Nat} {A B : Option ρ} (d : decode cc pc = .ok (.ifCond .eq off, 3)) (ht : (pc : Int) + off = (tgt : Int)) (ha : J2 w bs y cc nL ret fr lo em tgt ll st M A) (hq : pc + 3 = q) (hb : J2 w bs y cc nL ret fr lo em q ll st M B) : J2 w bs y cc nL ret fr lo em pc ll (.inl x :: st) M (if x = 0 then A else B) := by subst hq; exact J2_if_eq d ht ha hb
theorem K2_icmp_ge {x z : Int32} {off : Int} {tgt : Nat} {A B : Option ρ} (d : decode cc pc = .ok (.if_icmp .ge off, 3)) (ht : (pc : Int) + off = (tgt : Int)) (ha : J2 w bs y cc nL ret fr lo em tgt ll st M A) (hq : pc + 3 = q) (hb : J2 w bs y cc nL ret fr lo em q ll st M B) : J2 w bs y cc nL ret fr lo em pc ll (.inl z :: .inl x :: st) M (if z ≤ x then A else B) := by subst hq; exact J2_icmp_ge d ht ha hb
theorem K2_icmp_gt {x z : Int32} {off : Int} {tgt : Nat} {A B : Option ρ} (d : decode cc pc = .ok (.if_icmp .gt off, 3)) (ht : (pc : Int) + off = (tgt : Int)) (ha : J2 w bs y cc nL ret fr lo em tgt ll st M A) (hq : pc + 3 = q) (hb : J2 w bs y cc nL ret fr lo em q ll st M B) : J2 w bs y cc nL ret fr lo em pc ll (.inl z :: .inl x :: st) M (if z < x then A else B) := by subst hq; exact J2_icmp_gt d ht ha hb
theorem K2_if_ne {x : Int32} {off : Int} {tgt : Nat} {A B : Option ρ} (d : decode cc pc = .ok (.ifCond .ne off, 3)) (ht : (pc : Int) + off = (tgt : Int)) (ha : J2 w bs y cc nL ret fr lo em tgt ll st M A) (hq : pc + 3 = q) (hb : J2 w bs y cc nL ret fr lo em q ll st M B) : J2 w bs y cc nL ret fr lo em pc ll (.inl x :: st) M (if x = 0 then B else A) := by subst hq; exact J2_if_ne d ht ha hb
theorem K2_iald {i : Int32} {n a : Nat} (d : decode cc pc = .ok (.iaload, 1)) (hq : pc + 1 = q) (h : ∀ v, J2 w bs y cc nL ret fr lo em q ll (.inl v :: st) M (XI v)) : J2 w bs y cc nL ret fr lo em pc ll (.inl i :: .inr (1, n, a) :: st) M (gd i n (oli (M a i.toNatClampNeg) XI)) := by subst hq; exact J2_iald d (h _)
theorem K2_getI {kd ix ci a : Nat} (k : Nat) (d : decode cc pc = .ok (.getfield ix, 3)) (hf : j_F y.cls ix ci k) (hkd : kd = 10 + ci) (hs : j_fs ci k = none) (hq : pc + 3 = q) (h : ∀ v, J2 w bs y cc nL ret fr lo em q ll (.inl v :: st) M (XI v)) : J2 w bs y cc nL ret fr lo em pc ll (.inr (kd, 0, a) :: st) M (oli (M a k) XI) := by subst hq; exact J2_getI k d hf hkd hs (h _)
theorem K2_getR {kd ix ci a kd2 n2 off a2 : Nat} (k : Nat) (d : decode cc pc = .ok (.getfield ix, 3)) (hf : j_F y.cls ix ci k) (hkd : kd = 10 + ci) (hs : j_fs ci k = some (kd2, n2, off, false)) (h0 : kd2 ≠ 0) (ha : a + off = a2) (hq : pc + 3 = q) (h : J2 w bs y cc nL ret fr lo em q ll (.inr (kd2, n2, a2) :: st) M X) : J2 w bs y cc nL ret fr lo em pc ll (.inr (kd, 0, a) :: st) M X := by subst hq; subst ha; exact J2_getR k d hf hkd hs h0 h
theorem K2_putI {kd ix ci a : Nat} {v : Int32} (k : Nat) (d : decode cc pc = .ok (.putfield ix, 3)) (hf : j_F y.cls ix ci k) (hp : j_FP ci k .int) (hkd : kd = 10 + ci) (hs : j_fs ci k = none) (h60 : ci ≠ 6) (hq : pc + 3 = q) (h : ∀ M1, J2 w bs y cc nL ret fr lo em q ll st M1 (XM M1)) : J2 w bs y cc nL ret fr lo em pc ll (.inl v :: .inr (kd, 0, a) :: st) M (oml (mw M a k v) XM) := by subst hq; exact J2_putI k d hf hp hkd hs h60 (h _)
theorem J2_vret (d : decode cc pc = .ok (.return_, 1)) : J2 w [] y cc nL none fr lo j_ev pc ll [] M (some M) := by
  intro r hr
  cases hr
  refine ⟨j_le.rfl, ?_⟩
  intro p l e s m args below meth c D aI aB H0 io Lv K0 mc ms H locs cells slots la cx hS hH hl hll hst hlo h1 h2
  refine W.widen (k := mc) (n := ms) (by simpa [j_ev] using h1) (by simpa [j_ev] using h2) ?_
  have hlocks := cx.2.2.2.2.2.2
  exact W.vret cx.1 cx.2.1 cx.2.2.1 (fun t ht hW => ⟨io, Lv, j_ext.rfl, by rw [ht]; exact hH, fun x hx => (by cases hx), rfl⟩) hlo d
/-- a long is made and stored: from J to J2 -/
theorem J_ls0 {g : j_V} (d0 : decode cc pc = .ok (.lconst 0, 1)) (d1 : decode cc (pc + 1) = .ok (.lstore_n 1, 1)) (hn : 2 < nL) (hq : pc + 1 + 1 = q) (h : J2 0 [] y cc nL ret fr lo em q [(0, g)] [] M X) : J y cc nL ret fr lo em pc [(0, g)] [] M X := by
  subst hq
  intro r hr
  refine ⟨(h r hr).1, ?_⟩
  intro p l e s m args below meth c D aI aB H0 io Lv K0 mc ms H locs cells slots la cx hS hH hl hll hst hlo h1 h2
  refine lv_lconst cx.1 cx.2.1 d0 (v := 0) rfl ?_
  refine lv_lstore_n cx.1 cx.2.1 d1 rfl hl hn (lv' := (1, .long 0) :: j_lm io [(0, g)]) ?_ (fun la' hl' => ?_)
  · simp [j_lm, j_val_cat]
  · exact (h r hr).2 p l e s m args below meth c D aI aB H0 io Lv K0 mc ms H locs cells slots la' cx hS hH hl' hll hst hlo h1 h2
theorem J2_lload (d : decode cc pc = .ok (.lload_n 1, 1)) (hq : pc + 1 = q) (h : J2 w (.long w :: bs) y cc nL ret fr lo em q ll [] M X) : J2 w bs y cc nL ret fr lo em pc ll [] M X := by
  subst hq
  intro r hr
  refine ⟨(h r hr).1, ?_⟩
  intro p l e s m args below meth c D aI aB H0 io Lv K0 mc ms H locs cells slots la cx hS hH hl hll hst hlo h1 h2
  refine lv_lload_n cx.1 cx.2.1 d rfl (lv_at hl 0 rfl) ?_
  exact (h r hr).2 p l e s m args below meth c D aI aB H0 io Lv K0 mc ms H locs cells slots la cx hS hH hl hll hst hlo h1 h2
theorem J2_lshl {x : Int64} {z : Int32} (d : decode cc pc = .ok (.lshl, 1)) (hq : pc + 1 = q) (h : J2 w (.long (x <<< (z.toInt64 &&& 63)) :: bs) y cc nL ret fr lo em q ll [] M X) : J2 w (.long x :: bs) y cc nL ret fr lo em pc ll [.inl z] M X := by
  subst hq
  intro r hr
  refine ⟨(h r hr).1, ?_⟩
  intro p l e s m args below meth c D aI aB H0 io Lv K0 mc ms H locs cells slots la cx hS hH hl hll hst hlo h1 h2
  refine lv_lshl cx.1 cx.2.1 d rfl ?_
  exact (h r hr).2 p l e s m args below meth c D aI aB H0 io Lv K0 mc ms H locs cells slots la cx hS hH hl hll (j_live_t hst) hlo h1 h2
theorem J2_i2l {z : Int32} (d : decode cc pc = .ok (.i2l, 1)) (hq : pc + 1 = q) (h : J2 w (.long z.toInt64 :: bs) y cc nL ret fr lo em q ll [] M X) : J2 w bs y cc nL ret fr lo em pc ll [.inl z] M X := by
  subst hq
  intro r hr
  refine ⟨(h r hr).1, ?_⟩
  intro p l e s m args below meth c D aI aB H0 io Lv K0 mc ms H locs cells slots la cx hS hH hl hll hst hlo h1 h2
  refine lv_i2l cx.1 cx.2.1 d rfl ?_
  exact (h r hr).2 p l e s m args below meth c D aI aB H0 io Lv K0 mc ms H locs cells slots la cx hS hH hl hll (j_live_t hst) hlo h1 h2
theorem J2_lor {x z : Int64} (d : decode cc pc = .ok (.lor, 1)) (hq : pc + 1 = q) (h : J2 w (.long (x ||| z) :: bs) y cc nL ret fr lo em q ll [] M X) : J2 w (.long z :: .long x :: bs) y cc nL ret fr lo em pc ll [] M X := by
  subst hq
  intro r hr
  refine ⟨(h r hr).1, ?_⟩
  intro p l e s m args below meth c D aI aB H0 io Lv K0 mc ms H locs cells slots la cx hS hH hl hll hst hlo h1 h2
  refine lv_lor cx.1 cx.2.1 d ?_
  exact (h r hr).2 p l e s m args below meth c D aI aB H0 io Lv K0 mc ms H locs cells slots la cx hS hH hl hll hst hlo h1 h2
theorem J2_lstore {x : Int64} {g : j_V} (d : decode cc pc = .ok (.lstore_n 1, 1)) (hn : 2 < nL) (hq : pc + 1 = q) (h : J2 x bs y cc nL ret fr lo em q [(0, g)] [] M X) : J2 w (.long x :: bs) y cc nL ret fr lo em pc [(0, g)] [] M X := by
  subst hq
  intro r hr
  refine ⟨(h r hr).1, ?_⟩
  intro p l e s m args below meth c D aI aB H0 io Lv K0 mc ms H locs cells slots la cx hS hH hl hll hst hlo h1 h2
  refine lv_lstore_n cx.1 cx.2.1 d rfl hl hn (lv' := (1, .long x) :: j_lm io [(0, g)]) ?_ (fun la' hl' => ?_)
  · simp [j_lm, j_val_cat]
  · exact (h r hr).2 p l e s m args below meth c D aI aB H0 io Lv K0 mc ms H locs cells slots la' cx hS hH hl' hll hst hlo h1 h2
/-- KEYWORDS[i] -/
theorem J2_kw {i : Int32} {ix : Nat} (k : Nat) (d0 : decode cc pc = .ok (.getstatic ix, 3)) (hlk : Cond.fieldLink y.cls ix RX8 "KEYWORDS" "[J" ∈ j_ws) (d1 : decode cc (pc + 3) = .ok (.iload_n 3, 1)) (hk : ll[k]? = some (3, .inl i)) (d2 : decode cc (pc + 3 + 1) = .ok (.laload, 1)) (hq : pc + 3 + 1 + 1 = q) (h : J2 w (.long (j_kws.getD i.toNatClampNeg 0) :: bs) y cc nL ret fr lo em q ll [] M X) : J2 w bs y cc nL ret fr lo em pc ll [] M (gd i 13 X) := by
  subst hq
  intro r hr
  obtain ⟨hin, hr⟩ := gd_some hr
  refine ⟨(h r hr).1, ?_⟩
  intro p l e s m args below meth c D aI aB H0 io Lv K0 mc ms H locs cells slots la cx hS hH hl hll hst hlo h1 h2
  obtain ⟨q9, ⟨cf, kf, fi, f9, b9, cell, z1, z2, z3, z4, z5, z6, z7, z8⟩, ⟨scr, x1, x2, x3, x4, x6, x5, -⟩⟩ := hS.2.2.2.2.2.2.2.2.2.2.2.2
  have hlt : i.toNatClampNeg < 13 := Nat.not_le.mp fun q => hin (Or.inr q)
  refine W.gets cx.1 cx.2.1 cx.2.2.2.2.2.1 (cx.2.2.2.2.1 _ hlk) z1 z2 z3 z4 (by rw [hH.2.1 b9 (Array.getElem?_eq_some_iff.mp z5).1]; exact z5) (fun e9 => by rw [e9] at z6; cases z6) z7 rfl d0 ?_
  refine lv_iload_n (pc := pc + 3) (ls := la) cx.1 cx.2.1 d1 rfl (j2_lm_at hl hk) ?_
  refine W.lald (v := .long (j_kws.getD i.toNatClampNeg 0)) cx.1 cx.2.1 (by rw [hH.2.1 q9 (Array.getElem?_eq_some_iff.mp x1).1]; exact x1) x2 x3 (fun e9 => e9.elim (fun e9 => hin (Or.inl e9)) (fun e9 => by omega)) (x5 _ hlt) rfl rfl d2 ?_
  exact (h r hr).2 p l e s m args below meth c D aI aB H0 io Lv K0 mc ms H locs cells slots la cx hS hH hl hll hst hlo h1 h2
/-- a comparison of longs, and the branch on it -/
theorem J2_lcmp {x z : Int64} {off : Int} {tgt : Nat} {A B : Option ρ} (d0 : decode cc pc = .ok (.lcmp, 1)) (d1 : decode cc (pc + 1) = .ok (.ifCond .ne off, 3)) (ht : ((pc + 1 : Nat) : Int) + off = (tgt : Int)) (ha : J2 w bs y cc nL ret fr lo em tgt ll [] M A) (hq : pc + 1 + 3 = q) (hb : J2 w bs y cc nL ret fr lo em q ll [] M B) : J2 w (.long z :: .long x :: bs) y cc nL ret fr lo em pc ll [] M (if x = z then B else A) := by
  subst hq
  have hc0 : lg_cmp x z = 0 ↔ x = z := by
    unfold lg_cmp
    by_cases g1 : z < x
    · have : x ≠ z := fun e => by subst e; exact Int64.lt_irrefl g1
      simp [g1, this]
    · by_cases g2 : x = z
      · simp [g1, g2]
      · simp [g1, g2]
  intro r hr
  refine ⟨?_, ?_⟩
  · by_cases hc : x = z
    · rw [if_pos hc] at hr; exact (hb r hr).1
    · rw [if_neg hc] at hr; exact (ha r hr).1
  intro p l e s m args below meth c D aI aB H0 io Lv K0 mc ms H locs cells slots la cx hS hH hl hll hst hlo h1 h2
  refine W.lcmp cx.1 cx.2.1 d0 ?_
  refine lv_if_ne cx.1 cx.2.1 d1 ht (fun hc => ?_) (fun hc => ?_)
  · rw [if_neg (fun e => hc (hc0.mpr e))] at hr
    exact (ha r hr).2 p l e s m args below meth c D aI aB H0 io Lv K0 mc ms H locs cells slots la cx hS hH hl hll hst hlo h1 h2
  · rw [if_pos (hc0.mp hc)] at hr
    exact (hb r hr).2 p l e s m args below meth c D aI aB H0 io Lv K0 mc ms H locs cells slots la cx hS hH hl hll hst hlo h1 h2
end JL
section JC
variable {ρ ρ' : Type} {w : Int64} {y : MethodName} {cc : ByteArray} {nL : Nat} {ret : Option FieldType} {fr lo : Nat} {em : ρ → Option j_V × j_M} {pc q : Nat} {ll : List (Nat × j_V)} {st : List j_V} {M : j_M} {y' : MethodName} {cc' : ByteArray} {nL' : Nat} {ret' : Option FieldType} {fr' lo' n ix ix9 : Nat} {em' : ρ' → Option j_V × j_M}
theorem j2_call {F : Option ρ'} {X : ρ' → Option ρ} {sv : List j_V} (as : List j_V) (hB : j_CB y' cc' nL' ret' n) (hJ : J y' cc' nL' ret' fr' lo' em' 0 (j_lz 0 as) [] M F) (hnl : as.length ≤ nL')
    (hrun : ∀ (p : Program) (l : Launch) (e : Env) (s : State) (m : MethodId) (args : Array Value) (below : List Frame) (meth : Method) (c : Code) (D : va_G) (aI aB : ClassId) (H0 : Heap) (io : Nat → Nat) (Lv : j_L) (K0 : j_M) (mc ms : Nat) (H : Heap) (locs : List Loc) (cells slots : Nat) (la : Array Slot) (mc' ms' : Nat) (Qc : Array Value → State → Outcome → State → Prop), j_Cx y cc nL ret p s m args meth c → j_S D aI aB H0 io Lv K0 s → j_H D aI aB H0 io Lv K0 M H → la.size = nL → (∀ x ∈ as, j_live Lv x) → cells + mc' ≤ mc → slots + ms' ≤ ms →
      Met l y' (Cond.code y' cc' nL' ret' :: j_ws) { frames := fr', cells := mc', slots := ms', locals := lo' } (j_Pc D aI aB H0 io Lv K0 M as) Qc mc' ms' (fun q => H0.size ≤ q) →
      va_Run p l e { frames := fr, cells := mc, slots := ms, locals := lo } s m args below meth c H locs cells slots mc' ms' (F0 m pc la (sv.map (j_val io))) (st.map (j_val io)) (Qc (as.map (j_val io)).toArray) (fun q => H0.size ≤ q))
    (hsv : ∀ x ∈ as, x ∈ sv) (hsv2 : ∀ x ∈ st, x ∈ sv) (h : ∀ r', J2 w [] y cc nL ret fr lo em (pc + 3) ll ((em' r').1.toList ++ st) (em' r').2 (X r')) : J2 w [] y cc nL ret fr lo em pc ll sv M (F.bind X) := by
  intro r hr
  obtain ⟨r', hF, hX⟩ := Option.bind_eq_some_iff.mp hr
  have m1 := (hJ r' hF).1
  have m2 := (h r' r hX).1
  refine ⟨m1.trans m2, ?_⟩
  intro p l e s m args below meth c D aI aB H0 io Lv K0 mc ms H locs cells slots la cx hS hH hl hll hst hlo h1 h2
  rw [List.append_nil]
  have c1 := m1.1
  have c2 := m1.2
  have c3 := m2.1
  have c4 := m2.2
  have hav : ∀ x ∈ as, j_live Lv x := fun x hx => hst x (hsv x hx)
  have hM := J_met hB as hJ hF l D aI aB H0 io Lv K0 hav hnl
  refine j_runW (hrun p l e s m args below meth c D aI aB H0 io Lv K0 mc ms H locs cells slots la _ _ _ cx hS hH hl.1 hav (by omega) (by omega) hM) (fun io' Lv' H1 L hx hH' hlv hL => ?_)
  have hst9 : ∀ x ∈ st, j_live Lv x := fun x hx => hst x (hsv2 x hx)
  have K := (h r' r hX).2 p l e s m args below meth c D aI aB H0 io' Lv' K0 mc ms H1 (locs ++ L) (cells + (j_cc (em' r').2 - j_cc M)) (slots + (j_cs (em' r').2 - j_cs M)) la cx (hS.ext hx) hH' (by rw [j_lm_ext hx hll]; exact hl) (fun q hq => j_live_ext hx (hll q hq)) (fun x hx9 => by
    rcases List.mem_append.mp hx9 with h9 | h9
    · exact hlv x (by simpa using h9)
    · exact j_live_ext hx (hst9 x h9)) (j_locs hlo hL) (by omega) (by omega)
  rw [List.append_nil] at K
  have e5 : (((em' r').1.toList ++ st).map (j_val io')) = ((em' r').1.map (j_val io')).toList ++ st.map (j_val io) := by
    rw [List.map_append, j_st_ext hx hst9]
    congr 1
    cases (em' r').1 <;> rfl
  rw [e5] at K
  refine fun T hT XX => ?_
  obtain ⟨t, a1, o, b1, b2, ⟨io2, Lv2, x1, x2, x3, x4⟩, b3⟩ := K T hT XX
  exact ⟨t, a1, o, b1, b2, ⟨io2, Lv2, hx.trans x1, x2, x3, x4⟩, b3⟩
theorem j2_callS {F : Option ρ'} {X : ρ' → Option ρ} (as : List j_V) (d : decode cc pc = .ok (.invokestatic ix, 3)) (hB : j_CB y' cc' nL' ret' n) (hV : j_CS y.cls ix y') (hn : as.length = n) (hst : st.length ≤ 8) (hfr : fr' + 1 ≤ fr ∧ 8 + (nL' + 11) + lo' ≤ lo) (hnl : as.length ≤ nL') (hJ : J y' cc' nL' ret' fr' lo' em' 0 (j_lz 0 as) [] M F) (h : ∀ r', J2 w [] y cc nL ret fr lo em (pc + 3) ll ((em' r').1.toList ++ st) (em' r').2 (X r')) : J2 w [] y cc nL ret fr lo em pc ll (as.reverse ++ st) M (F.bind X) := by
  refine j2_call as hB hJ hnl ?_ (fun x hx => List.mem_append_left _ (List.mem_reverse.mpr hx)) (fun x hx => List.mem_append_right _ hx) h
  intro p l e s m args below meth c D aI aB H0 io Lv K0 mc ms H locs cells slots la mc' ms' Qc cx hS hH hl hav hc hs hM
  have hPre : PreS s H (j_Pc D aI aB H0 io Lv K0 M as) (as.map (j_val io)) := ⟨j_Pc_blind, fun U hU hW => ⟨rfl, hS.warm hW, by rw [hU]; exact hH⟩⟩
  have hstk : (as.reverse ++ st).map (j_val io) = (as.map (j_val io)).reverse ++ st.map (j_val io) := by
    rw [List.map_append, List.map_reverse]
  rw [hstk]
  have hFix : CallFix p m c cc nL s args j_ws y.cls := ⟨cx.1, cx.2.1, cx.2.2.2.1, cx.2.2.2.2.2.1, cx.2.2.2.2.1⟩
  rcases hV.1 with hlk | ⟨host, hlk⟩
  · exact va_runS hFix hM ⟨callB_of n cx.2.2.2.2.1 (j_ws_good hB.2.1) rfl rfl rfl (cx.2.2.2.2.1 _ hB.2.2.1) (cx.2.2.2.2.1 _ hlk) hB.2.2.2 hfr, cx.2.2.2.2.1 _ hV.2⟩ hPre rfl (by rw [List.length_map]; exact hn) hl rfl (j_hW hst io m pc la _) d ⟨hc, hs⟩
  · exact va_runSN hFix hM ⟨va_cnB n cx.2.2.2.2.1 (j_ws_good hB.2.1) rfl rfl rfl (hS.2.2.2.2.2.2.2.2.2.2.1 _ hlk) (cx.2.2.2.2.1 _ hB.2.2.1) hB.2.2.2 hfr, cx.2.2.2.2.1 _ hV.2, trivial⟩ hPre rfl (by rw [List.length_map]; exact hn) hl rfl (j_hW hst io m pc la _) d ⟨hc, hs⟩
theorem J2_csi {F : Option (Int32 × j_M)} {X : Int32 → j_M → Option ρ} {sv : List j_V} (as : List j_V) (d : decode cc pc = .ok (.invokestatic ix, 3)) (hB : j_CB y' cc' nL' ret' n) (hV : j_CS y.cls ix y') (hn : as.length = n) (hst : st.length ≤ 8) (hfr : fr' + 1 ≤ fr ∧ 8 + (nL' + 11) + lo' ≤ lo) (hnl : as.length ≤ nL') (hsv : as.reverse ++ st = sv) (hJ : J y' cc' nL' ret' fr' lo' j_ei 0 (j_lz 0 as) [] M F) (h : ∀ r M', J2 w [] y cc nL ret fr lo em (pc + 3) ll (.inl r :: st) M' (X r M')) : J2 w [] y cc nL ret fr lo em pc ll sv M (obi F X) := by
  subst hsv
  exact j2_callS as d hB hV hn hst hfr hnl hJ (fun r' => h r'.1 r'.2)
theorem K2_csi {F : Option (Int32 × j_M)} {X : Int32 → j_M → Option ρ} {sv : List j_V} (as : List j_V) (d : decode cc pc = .ok (.invokestatic ix9, 3)) (hB : j_CB y' cc' nL' ret' n) (hV : j_CS y.cls ix9 y') (hn : as.length = n) (hst : st.length ≤ 8) (hfr : fr' + 1 ≤ fr ∧ 8 + (nL' + 11) + lo' ≤ lo) (hnl : as.length ≤ nL') (hsv : as.reverse ++ st = sv) (hJ : J y' cc' nL' ret' fr' lo' j_ei 0 (j_lz 0 as) [] M F) (hq : pc + 3 = q) (h : ∀ r M', J2 w [] y cc nL ret fr lo em q ll (.inl r :: st) M' (X r M')) : J2 w [] y cc nL ret fr lo em pc ll sv M (obi F X) := by subst hq; exact J2_csi as d hB hV hn hst hfr hnl hsv hJ h
end JC
