def oml {ρ : Type} (M : j_M) (X : j_M → Option ρ) : Option ρ := X M
def oli {ρ : Type} (v : Int32) (X : Int32 → Option ρ) : Option ρ := X v
/-- a word by its place -/
theorem j_in (n : Nat) {w : Cond} (h : lw_tbl[n]? = some w) (hg : goodWord w = true) : w ∈ j_ws := List.mem_filter.mpr ⟨List.mem_of_getElem? h, hg⟩
theorem j_in_r (ws : List Cond) (ps : List Nat) (hp : ws = ps.filterMap (fun i => lw_tbl[i]?)) (h : ws.all goodWord = true) : ∀ w ∈ ws, w ∈ j_ws := fun w hw => by
  have h1 := List.all_eq_true.mp h w hw
  rw [hp] at hw
  obtain ⟨i, -, hi⟩ := List.mem_filterMap.mp hw
  exact j_in i hi h1
section JR
variable {ρ : Type} {y : MethodName} {cc : ByteArray} {nL : Nat} {ret : Option FieldType} {fr lo : Nat} {em : ρ → Option j_V × j_M} {pc q : Nat} {ll : List (Nat × j_V)} {st : List j_V} {M : j_M} {X : Option ρ} {XI : Int32 → Option ρ} {XM : j_M → Option ρ}
theorem K_iconst {n : Int} {v : Int32} (d : decode cc pc = .ok (.iconst n, 1)) (hv : Int32.ofInt n = v) (hq : pc + 1 = q) (h : J y cc nL ret fr lo em q ll (.inl v :: st) M X) : J y cc nL ret fr lo em pc ll (st) M X := by subst hq; exact J_iconst d hv h
theorem K_bipush {n : Int} {v : Int32} (d : decode cc pc = .ok (.bipush n, 2)) (hv : (Int8.ofInt n).toInt32 = v) (hq : pc + 2 = q) (h : J y cc nL ret fr lo em q ll (.inl v :: st) M X) : J y cc nL ret fr lo em pc ll (st) M X := by subst hq; exact J_bipush d hv h
theorem K_sipush {n : Int} {v : Int32} (d : decode cc pc = .ok (.sipush n, 3)) (hv : (Int16.ofInt n).toInt32 = v) (hq : pc + 3 = q) (h : J y cc nL ret fr lo em q ll (.inl v :: st) M X) : J y cc nL ret fr lo em pc ll (st) M X := by subst hq; exact J_sipush d hv h
theorem K_ldc {ix : Nat} {v : Int32} (d : decode cc pc = .ok (.ldc ix, 2)) (hc : Cond.constant y.cls ix v ∈ j_ws) (hq : pc + 2 = q) (h : J y cc nL ret fr lo em q ll (.inl v :: st) M X) : J y cc nL ret fr lo em pc ll (st) M X := by subst hq; exact J_ldc d hc h
theorem K_ldcw {ix : Nat} {v : Int32} (d : decode cc pc = .ok (.ldc_w ix, 3)) (hc : Cond.constant y.cls ix v ∈ j_ws) (hq : pc + 3 = q) (h : J y cc nL ret fr lo em q ll (.inl v :: st) M X) : J y cc nL ret fr lo em pc ll (st) M X := by subst hq; exact J_ldcw d hc h
theorem K_iload_n {f : Fin 4} {i : Nat} {x : Int32} (k : Nat) (d : decode cc pc = .ok (.iload_n f, 1)) (hi : (f : Nat) = i) (hk : ll[k]? = some (i, .inl x)) (hq : pc + 1 = q) (h : J y cc nL ret fr lo em q ll (.inl x :: st) M X) : J y cc nL ret fr lo em pc ll (st) M X := by subst hq; exact J_iload_n k d hi hk h
theorem K_iload {i : Nat} {x : Int32} (k : Nat) (d : decode cc pc = .ok (.iload i, 2)) (hk : ll[k]? = some (i, .inl x)) (hq : pc + 2 = q) (h : J y cc nL ret fr lo em q ll (.inl x :: st) M X) : J y cc nL ret fr lo em pc ll (st) M X := by subst hq; exact J_iload k d hk h
theorem K_iadd {x z : Int32} (d : decode cc pc = .ok (.iadd, 1)) (hq : pc + 1 = q) (h : J y cc nL ret fr lo em q ll (.inl (x + z) :: st) M X) : J y cc nL ret fr lo em pc ll (.inl z :: .inl x :: st) M X := by subst hq; exact J_iadd d h
theorem K_isub {x z : Int32} (d : decode cc pc = .ok (.isub, 1)) (hq : pc + 1 = q) (h : J y cc nL ret fr lo em q ll (.inl (x - z) :: st) M X) : J y cc nL ret fr lo em pc ll (.inl z :: .inl x :: st) M X := by subst hq; exact J_isub d h
theorem K_imul {x z : Int32} (d : decode cc pc = .ok (.imul, 1)) (hq : pc + 1 = q) (h : J y cc nL ret fr lo em q ll (.inl (x * z) :: st) M X) : J y cc nL ret fr lo em pc ll (.inl z :: .inl x :: st) M X := by subst hq; exact J_imul d h
theorem K_iand {x z : Int32} (d : decode cc pc = .ok (.iand, 1)) (hq : pc + 1 = q) (h : J y cc nL ret fr lo em q ll (.inl (x &&& z) :: st) M X) : J y cc nL ret fr lo em pc ll (.inl z :: .inl x :: st) M X := by subst hq; exact J_iand d h
theorem K_ior {x z : Int32} (d : decode cc pc = .ok (.ior, 1)) (hq : pc + 1 = q) (h : J y cc nL ret fr lo em q ll (.inl (x ||| z) :: st) M X) : J y cc nL ret fr lo em pc ll (.inl z :: .inl x :: st) M X := by subst hq; exact J_ior d h
theorem K_ixor {x z : Int32} (d : decode cc pc = .ok (.ixor, 1)) (hq : pc + 1 = q) (h : J y cc nL ret fr lo em q ll (.inl (x ^^^ z) :: st) M X) : J y cc nL ret fr lo em pc ll (.inl z :: .inl x :: st) M X := by subst hq; exact J_ixor d h
theorem K_ishl {x z : Int32} (d : decode cc pc = .ok (.ishl, 1)) (hq : pc + 1 = q) (h : J y cc nL ret fr lo em q ll (.inl (x <<< (z &&& 31)) :: st) M X) : J y cc nL ret fr lo em pc ll (.inl z :: .inl x :: st) M X := by subst hq; exact J_ishl d h
theorem K_ishr {x z : Int32} (d : decode cc pc = .ok (.ishr, 1)) (hq : pc + 1 = q) (h : J y cc nL ret fr lo em q ll (.inl (x >>> (z &&& 31)) :: st) M X) : J y cc nL ret fr lo em pc ll (.inl z :: .inl x :: st) M X := by subst hq; exact J_ishr d h
theorem K_iushr {x z : Int32} (d : decode cc pc = .ok (.iushr, 1)) (hq : pc + 1 = q) (h : J y cc nL ret fr lo em q ll (.inl (us x z) :: st) M X) : J y cc nL ret fr lo em pc ll (.inl z :: .inl x :: st) M X := by subst hq; exact J_iushr d h
theorem K_i2b {x : Int32} (d : decode cc pc = .ok (.i2b, 1)) (hq : pc + 1 = q) (h : J y cc nL ret fr lo em q ll (.inl x.toInt8.toInt32 :: st) M X) : J y cc nL ret fr lo em pc ll (.inl x :: st) M X := by subst hq; exact J_i2b d h
theorem K_i2c {x : Int32} (d : decode cc pc = .ok (.i2c, 1)) (hq : pc + 1 = q) (h : J y cc nL ret fr lo em q ll (.inl (x.toUInt32 % 65536).toInt32 :: st) M X) : J y cc nL ret fr lo em pc ll (.inl x :: st) M X := by subst hq; exact J_i2c d h
theorem K_dup {x : j_V} (d : decode cc pc = .ok (.dup, 1)) (hq : pc + 1 = q) (h : J y cc nL ret fr lo em q ll (x :: x :: st) M X) : J y cc nL ret fr lo em pc ll (x :: st) M X := by subst hq; exact J_dup d h
theorem K_pop {x : j_V} (d : decode cc pc = .ok (.pop, 1)) (hq : pc + 1 = q) (h : J y cc nL ret fr lo em q ll (st) M X) : J y cc nL ret fr lo em pc ll (x :: st) M X := by subst hq; exact J_pop d h
theorem K_dup2 {x z : j_V} (d : decode cc pc = .ok (.dup2, 1)) (hq : pc + 1 = q) (h : J y cc nL ret fr lo em q ll (x :: z :: x :: z :: st) M X) : J y cc nL ret fr lo em pc ll (x :: z :: st) M X := by subst hq; exact J_dup2 d h
theorem K_aload_n {f : Fin 4} {i : Nat} {g : Nat × Nat × Nat} (k : Nat) (d : decode cc pc = .ok (.aload_n f, 1)) (hi : (f : Nat) = i) (hk : ll[k]? = some (i, .inr g)) (hq : pc + 1 = q) (h : J y cc nL ret fr lo em q ll (.inr g :: st) M X) : J y cc nL ret fr lo em pc ll st M X := by subst hq; exact J_aload_n k d hi hk h
theorem K_aload {i : Nat} {g : Nat × Nat × Nat} (k : Nat) (d : decode cc pc = .ok (.aload i, 2)) (hk : ll[k]? = some (i, .inr g)) (hq : pc + 2 = q) (h : J y cc nL ret fr lo em q ll (.inr g :: st) M X) : J y cc nL ret fr lo em pc ll st M X := by subst hq; exact J_aload k d hk h
theorem K_istore_n {f : Fin 4} {i : Nat} {x : Int32} {ll' : List (Nat × j_V)} (d : decode cc pc = .ok (.istore_n f, 1)) (hi : (f : Nat) = i) (hn : i < nL) (hs : (i, .inl x) :: ll.filter (fun q => !(q.1 == i)) = ll') (hq : pc + 1 = q) (h : J y cc nL ret fr lo em q ll' st M X) : J y cc nL ret fr lo em pc ll (.inl x :: st) M X := by subst hq; exact J_istore_n d hi hn hs h
theorem K_istore {i : Nat} {x : Int32} {ll' : List (Nat × j_V)} (d : decode cc pc = .ok (.istore i, 2)) (hn : i < nL) (hs : (i, .inl x) :: ll.filter (fun q => !(q.1 == i)) = ll') (hq : pc + 2 = q) (h : J y cc nL ret fr lo em q ll' st M X) : J y cc nL ret fr lo em pc ll (.inl x :: st) M X := by subst hq; exact J_istore d hn hs h
theorem K_iinc {i : Nat} {n : Int} {x v : Int32} {ll' : List (Nat × j_V)} (k : Nat) (d : decode cc pc = .ok (.iinc i n, 3)) (hk : ll[k]? = some (i, .inl x)) (hv : x + Int32.ofInt n = v) (hn : i < nL) (hs : (i, .inl v) :: ll.filter (fun q => !(q.1 == i)) = ll') (hq : pc + 3 = q) (h : J y cc nL ret fr lo em q ll' st M X) : J y cc nL ret fr lo em pc ll st M X := by subst hq; exact J_iinc k d hk hv hn hs h
theorem K_irem {x z : Int32} (d : decode cc pc = .ok (.irem, 1)) (hq : pc + 1 = q) (h : J y cc nL ret fr lo em q ll (.inl (x - x / z * z) :: st) M X) : J y cc nL ret fr lo em pc ll (.inl z :: .inl x :: st) M (gn z X) := by subst hq; exact J_irem d h
theorem K_if_eq {x : Int32} {off : Int} {tgt : Nat} {A B : Option ρ} (d : decode cc pc = .ok (.ifCond .eq off, 3)) (ht : (pc : Int) + off = (tgt : Int)) (ha : J y cc nL ret fr lo em tgt ll st M A) (hq : pc + 3 = q) (hb : J y cc nL ret fr lo em q ll st M B) : J y cc nL ret fr lo em pc ll (.inl x :: st) M (if x = 0 then A else B) := by subst hq; exact J_if_eq d ht ha hb
theorem K_icmp_eq {x z : Int32} {off : Int} {tgt : Nat} {A B : Option ρ} (d : decode cc pc = .ok (.if_icmp .eq off, 3)) (ht : (pc : Int) + off = (tgt : Int)) (ha : J y cc nL ret fr lo em tgt ll st M A) (hq : pc + 3 = q) (hb : J y cc nL ret fr lo em q ll st M B) : J y cc nL ret fr lo em pc ll (.inl z :: .inl x :: st) M (if x = z then A else B) := by subst hq; exact J_icmp_eq d ht ha hb
theorem K_if_ne {x : Int32} {off : Int} {tgt : Nat} {A B : Option ρ} (d : decode cc pc = .ok (.ifCond .ne off, 3)) (ht : (pc : Int) + off = (tgt : Int)) (ha : J y cc nL ret fr lo em tgt ll st M A) (hq : pc + 3 = q) (hb : J y cc nL ret fr lo em q ll st M B) : J y cc nL ret fr lo em pc ll (.inl x :: st) M (if x = 0 then B else A) := by subst hq; exact J_if_ne d ht ha hb
theorem K_icmp_ne {x z : Int32} {off : Int} {tgt : Nat} {A B : Option ρ} (d : decode cc pc = .ok (.if_icmp .ne off, 3)) (ht : (pc : Int) + off = (tgt : Int)) (ha : J y cc nL ret fr lo em tgt ll st M A) (hq : pc + 3 = q) (hb : J y cc nL ret fr lo em q ll st M B) : J y cc nL ret fr lo em pc ll (.inl z :: .inl x :: st) M (if x = z then B else A) := by subst hq; exact J_icmp_ne d ht ha hb
theorem K_if_lt {x : Int32} {off : Int} {tgt : Nat} {A B : Option ρ} (d : decode cc pc = .ok (.ifCond .lt off, 3)) (ht : (pc : Int) + off = (tgt : Int)) (ha : J y cc nL ret fr lo em tgt ll st M A) (hq : pc + 3 = q) (hb : J y cc nL ret fr lo em q ll st M B) : J y cc nL ret fr lo em pc ll (.inl x :: st) M (if x < 0 then A else B) := by subst hq; exact J_if_lt d ht ha hb
theorem K_icmp_lt {x z : Int32} {off : Int} {tgt : Nat} {A B : Option ρ} (d : decode cc pc = .ok (.if_icmp .lt off, 3)) (ht : (pc : Int) + off = (tgt : Int)) (ha : J y cc nL ret fr lo em tgt ll st M A) (hq : pc + 3 = q) (hb : J y cc nL ret fr lo em q ll st M B) : J y cc nL ret fr lo em pc ll (.inl z :: .inl x :: st) M (if x < z then A else B) := by subst hq; exact J_icmp_lt d ht ha hb
theorem K_if_ge {x : Int32} {off : Int} {tgt : Nat} {A B : Option ρ} (d : decode cc pc = .ok (.ifCond .ge off, 3)) (ht : (pc : Int) + off = (tgt : Int)) (ha : J y cc nL ret fr lo em tgt ll st M A) (hq : pc + 3 = q) (hb : J y cc nL ret fr lo em q ll st M B) : J y cc nL ret fr lo em pc ll (.inl x :: st) M (if 0 ≤ x then A else B) := by subst hq; exact J_if_ge d ht ha hb
theorem K_icmp_ge {x z : Int32} {off : Int} {tgt : Nat} {A B : Option ρ} (d : decode cc pc = .ok (.if_icmp .ge off, 3)) (ht : (pc : Int) + off = (tgt : Int)) (ha : J y cc nL ret fr lo em tgt ll st M A) (hq : pc + 3 = q) (hb : J y cc nL ret fr lo em q ll st M B) : J y cc nL ret fr lo em pc ll (.inl z :: .inl x :: st) M (if z ≤ x then A else B) := by subst hq; exact J_icmp_ge d ht ha hb
theorem K_if_gt {x : Int32} {off : Int} {tgt : Nat} {A B : Option ρ} (d : decode cc pc = .ok (.ifCond .gt off, 3)) (ht : (pc : Int) + off = (tgt : Int)) (ha : J y cc nL ret fr lo em tgt ll st M A) (hq : pc + 3 = q) (hb : J y cc nL ret fr lo em q ll st M B) : J y cc nL ret fr lo em pc ll (.inl x :: st) M (if 0 < x then A else B) := by subst hq; exact J_if_gt d ht ha hb
theorem K_icmp_gt {x z : Int32} {off : Int} {tgt : Nat} {A B : Option ρ} (d : decode cc pc = .ok (.if_icmp .gt off, 3)) (ht : (pc : Int) + off = (tgt : Int)) (ha : J y cc nL ret fr lo em tgt ll st M A) (hq : pc + 3 = q) (hb : J y cc nL ret fr lo em q ll st M B) : J y cc nL ret fr lo em pc ll (.inl z :: .inl x :: st) M (if z < x then A else B) := by subst hq; exact J_icmp_gt d ht ha hb
theorem K_if_le {x : Int32} {off : Int} {tgt : Nat} {A B : Option ρ} (d : decode cc pc = .ok (.ifCond .le off, 3)) (ht : (pc : Int) + off = (tgt : Int)) (ha : J y cc nL ret fr lo em tgt ll st M A) (hq : pc + 3 = q) (hb : J y cc nL ret fr lo em q ll st M B) : J y cc nL ret fr lo em pc ll (.inl x :: st) M (if x ≤ 0 then A else B) := by subst hq; exact J_if_le d ht ha hb
theorem K_icmp_le {x z : Int32} {off : Int} {tgt : Nat} {A B : Option ρ} (d : decode cc pc = .ok (.if_icmp .le off, 3)) (ht : (pc : Int) + off = (tgt : Int)) (ha : J y cc nL ret fr lo em tgt ll st M A) (hq : pc + 3 = q) (hb : J y cc nL ret fr lo em q ll st M B) : J y cc nL ret fr lo em pc ll (.inl z :: .inl x :: st) M (if x ≤ z then A else B) := by subst hq; exact J_icmp_le d ht ha hb
theorem K_iald {i : Int32} {n a : Nat} (d : decode cc pc = .ok (.iaload, 1)) (hq : pc + 1 = q) (h : ∀ v, J y cc nL ret fr lo em q ll (.inl v :: st) M (XI v)) : J y cc nL ret fr lo em pc ll (.inl i :: .inr (1, n, a) :: st) M (gd i n (oli (M a i.toNatClampNeg) XI)) := by subst hq; exact J_iald d (h _)
theorem K_iald3 {i : Int32} {n a : Nat} (d : decode cc pc = .ok (.iaload, 1)) (hq : pc + 1 = q) (h : ∀ v, J y cc nL ret fr lo em q ll (.inl v :: st) M (XI v)) : J y cc nL ret fr lo em pc ll (.inl i :: .inr (3, n, a) :: st) M (gd i n (oli (M a i.toNatClampNeg) XI)) := by subst hq; exact J_iald3 d (h _)
theorem K_bald {i : Int32} {n a : Nat} (d : decode cc pc = .ok (.baload, 1)) (hq : pc + 1 = q) (h : ∀ v, J y cc nL ret fr lo em q ll (.inl v :: st) M (XI v)) : J y cc nL ret fr lo em pc ll (.inl i :: .inr (2, n, a) :: st) M (gd i n (oli (M a i.toNatClampNeg) XI)) := by subst hq; exact J_bald d (h _)
theorem K_alen {n a : Nat} {v : Int32} (d : decode cc pc = .ok (.arraylength, 1)) (hv : Int32.ofNat n = v) (hq : pc + 1 = q) (h : J y cc nL ret fr lo em q ll (.inl v :: st) M X) : J y cc nL ret fr lo em pc ll (.inr (1, n, a) :: st) M X := by subst hq; exact J_alen d hv h
theorem K_alen3 {n a : Nat} {v : Int32} (d : decode cc pc = .ok (.arraylength, 1)) (hv : Int32.ofNat n = v) (hq : pc + 1 = q) (h : J y cc nL ret fr lo em q ll (.inl v :: st) M X) : J y cc nL ret fr lo em pc ll (.inr (3, n, a) :: st) M X := by subst hq; exact J_alen3 d hv h
theorem K_getI {kd ix ci a : Nat} (k : Nat) (d : decode cc pc = .ok (.getfield ix, 3)) (hf : j_F y.cls ix ci k) (hkd : kd = 10 + ci) (hs : j_fs ci k = none) (hq : pc + 3 = q) (h : ∀ v, J y cc nL ret fr lo em q ll (.inl v :: st) M (XI v)) : J y cc nL ret fr lo em pc ll (.inr (kd, 0, a) :: st) M (oli (M a k) XI) := by subst hq; exact J_getI k d hf hkd hs (h _)
theorem K_getR {kd ix ci a kd2 n2 off a2 : Nat} (k : Nat) (d : decode cc pc = .ok (.getfield ix, 3)) (hf : j_F y.cls ix ci k) (hkd : kd = 10 + ci) (hs : j_fs ci k = some (kd2, n2, off, false)) (h0 : kd2 ≠ 0) (ha : a + off = a2) (hq : pc + 3 = q) (h : J y cc nL ret fr lo em q ll (.inr (kd2, n2, a2) :: st) M X) : J y cc nL ret fr lo em pc ll (.inr (kd, 0, a) :: st) M X := by subst hq; subst ha; exact J_getR k d hf hkd hs h0 h
theorem K_getN {kd ix ci a kd2 n2 off a2 : Nat} (k : Nat) (d : decode cc pc = .ok (.getfield ix, 3)) (hf : j_F y.cls ix ci k) (hkd : kd = 10 + ci) (hs : j_fs ci k = some (kd2, n2, off, true)) (h0 : kd2 ≠ 0) (ha : a + off = a2) (hq : pc + 3 = q) (h : J y cc nL ret fr lo em q ll (.inr (if M a k = 0 then 0 else kd2, n2, a2) :: st) M X) : J y cc nL ret fr lo em pc ll (.inr (kd, 0, a) :: st) M X := by subst hq; subst ha; exact J_getN k d hf hkd hs h0 h
theorem K_iast {i v : Int32} {n a : Nat} (d : decode cc pc = .ok (.iastore, 1)) (hq : pc + 1 = q) (h : ∀ M1, J y cc nL ret fr lo em q ll st M1 (XM M1)) : J y cc nL ret fr lo em pc ll (.inl v :: .inl i :: .inr (1, n, a) :: st) M (gd i n (oml (mw M a i.toNatClampNeg v) XM)) := by subst hq; exact J_iast d (h _)
theorem K_bast {i v : Int32} {n a : Nat} (d : decode cc pc = .ok (.bastore, 1)) (hq : pc + 1 = q) (h : ∀ M1, J y cc nL ret fr lo em q ll st M1 (XM M1)) : J y cc nL ret fr lo em pc ll (.inl v :: .inl i :: .inr (2, n, a) :: st) M (gd i n (oml (mw M a i.toNatClampNeg v.toInt8.toInt32) XM)) := by subst hq; exact J_bast d (h _)
theorem K_putI {kd ix ci a : Nat} {v : Int32} (k : Nat) (d : decode cc pc = .ok (.putfield ix, 3)) (hf : j_F y.cls ix ci k) (hp : j_FP ci k .int) (hkd : kd = 10 + ci) (hs : j_fs ci k = none) (h60 : ci ≠ 6) (hq : pc + 3 = q) (h : ∀ M1, J y cc nL ret fr lo em q ll st M1 (XM M1)) : J y cc nL ret fr lo em pc ll (.inl v :: .inr (kd, 0, a) :: st) M (oml (mw M a k v) XM) := by subst hq; exact J_putI k d hf hp hkd hs h60 (h _)
theorem K_putZ {kd ix ci a : Nat} {v : Int32} (k : Nat) (d : decode cc pc = .ok (.putfield ix, 3)) (hf : j_F y.cls ix ci k) (hp : j_FP ci k .boolean) (hkd : kd = 10 + ci) (hs : j_fs ci k = none) (h60 : ci ≠ 6) (hq : pc + 3 = q) (h : ∀ M1, J y cc nL ret fr lo em q ll st M1 (XM M1)) : J y cc nL ret fr lo em pc ll (.inl v :: .inr (kd, 0, a) :: st) M (gz v (oml (mw M a k v) XM)) := by subst hq; exact J_putZ k d hf hp hkd hs h60 (h _)
/-- System.arraycopy over int rows -/
theorem J_acopy {sp dp n : Int32} {n0 a0 n1 a ix : Nat} (d : decode cc pc = .ok (.invokestatic ix, 3)) (hlk : Cond.methodLink y.cls ix arraycopyName ∈ j_ws) (hnat : Cond.native arraycopyName ∈ j_ws) (hstat : Cond.static arraycopyName ∈ j_ws) (hini : Cond.initialized "java/lang/System" ∈ j_ws) (hfr : 1 ≤ fr) (hlo9 : st.length + (nativeFrameWords "java/lang/System" "arraycopy" 5 + 11) ≤ lo) (h : J y cc nL ret fr lo em (pc + 3) ll st (mcp M a0 sp.toNatClampNeg a dp.toNatClampNeg n.toNatClampNeg) X) : J y cc nL ret fr lo em pc ll (.inl n :: .inl dp :: .inr (1, n1, a) :: .inl sp :: .inr (1, n0, a0) :: st) M (gc sp dp n n0 n1 X) := by
  intro r hr
  obtain ⟨⟨g1, g2, g3, g4, g5⟩, hr⟩ := gc_some hr
  have hle : j_le M (mcp M a0 sp.toNatClampNeg a dp.toNatClampNeg n.toNatClampNeg) := by simp [j_le, j_cc_mcp, j_cs_mcp]
  refine ⟨hle.trans (h r hr).1, ?_⟩
  intro p l e s m args below meth c D aI aB H0 io Lv K0 mc ms H locs cells slots la cx hS hH hl hll hst hlo h1 h2
  have hL1 : Lv 1 n1 a := hst (.inr (1, n1, a)) (by simp) (Nat.succ_ne_zero _)
  have hL0 : Lv 1 n0 a0 := hst (.inr (1, n0, a0)) (by simp) (Nat.succ_ne_zero _)
  have hA := j_arr hH hL1
  have hA0 := j_arr hH hL0
  simp only [List.map_cons, j_si]
  rw [j_sv (show (1 : Nat) ≠ 0 by decide), j_sv (show (1 : Nat) ≠ 0 by decide)]
  have nn : ∀ z : Int32, ¬ z < 0 → z.toInt = (z.toNatClampNeg : Int) := by
    intro z hz
    have hz0 : (0 : Int) ≤ z.toInt := by
      have := Int32.not_lt.mp hz
      simpa using Int32.le_iff_toInt_le.mp this
    show z.toInt = ((z.toInt.toNat : Nat) : Int)
    omega
  intro T hT XX
  obtain ⟨-, k0, hk0, cm0, hkk0⟩ := (hS.1.2 0 _ rfl).1 n0 (fun j => .int (M a0 j))
  obtain ⟨-, k1, hk1, cm1, hkk1⟩ := (hS.1.2 0 _ rfl).1 n1 (fun j => .int (M a j))
  obtain ⟨vm', X', step⟩ := XX.arraycopy cx.1 cx.2.2.2.2.2.1 (cx.2.2.2.2.1 _ hlk) (cx.2.2.2.2.1 _ hnat) (cx.2.2.2.2.1 _ hstat) (cx.2.2.2.2.1 _ hini) (src := io a0) (dst := io a) (cs := arrV aI n0 (fun j => .int (M a0 j))) (cd := arrV aI n1 (fun j => .int (M a j))) (srcPos := sp) (destPos := dp) (n := n) (by rw [hT]; exact hA0.1) (by rw [hT]; exact hA.1)
    (fun _ h => by cases h) (fun _ h => by cases h) (fun h => by cases h) (fun h => by cases h) hk0 hk1 hkk0 hkk1 (by simp) g1 g2 g3
    (by rw [nn sp g1, nn n g3, arrV_size]; omega)
    (by rw [nn dp g2, nn n g3, arrV_size]; omega)
    (fun vm₁ _ i hi => by
      have e9 : (arrV aI n0 (fun j => .int (M a0 j))).slots.getD (sp.toNatClampNeg + i) .null = .int (M a0 (sp.toNatClampNeg + i)) := by
        rw [Array.getD_eq_getD_getElem?, arrV_read _ _ (by omega)]
        rfl
      refine ⟨?_, ?_⟩
      · rw [e9]; rfl
      · rw [e9]; exact trivial)
    (g := F0 m pc la (.int n :: .int dp :: .ref (io a) :: .int sp :: .ref (io a0) :: st.map (j_val io))) rfl (by rw [cx.2.2.2.1]; exact hl.1) (rest := st.map (j_val io)) rfl (by rw [cx.2.1]; exact d) hfr (by show 2 * 0 + _ + _ ≤ lo; rw [j_catsum]; omega)
  have e1 : copied (arrV aI n0 (fun j => .int (M a0 j))) (arrV aI n1 (fun j => .int (M a j))) sp dp n = arrV aI n1 (fun j => .int (va_cpy (M a0) (M a) sp.toNatClampNeg dp.toNatClampNeg n.toNatClampNeg j)) := va_copied (fun z => .int z) aI aI (M a0) (M a) g4
  have e2 : (fun j => Value.int (va_cpy (M a0) (M a) sp.toNatClampNeg dp.toNatClampNeg n.toNatClampNeg j)) = fun j => Value.int (mcp M a0 sp.toNatClampNeg a dp.toNatClampNeg n.toNatClampNeg a j) := by
    funext j
    simp [va_cpy, mcp, hA.2.2]
  rw [e1, e2] at X' step
  have hl9 : io a < H.size := (Array.getElem?_eq_some_iff.mp hA.1).1
  have oq : ∀ q : Nat, q ≠ io a → (H.setIfInBounds (io a) (arrV aI n1 (fun j => .int (mcp M a0 sp.toNatClampNeg a dp.toNatClampNeg n.toNatClampNeg a j))))[q]? = H[q]? := fun q hq => by simp [Array.getElem?_setIfInBounds, Ne.symm hq]
  obtain ⟨t, a1, b1⟩ := (h r hr).2 p l e s m args below meth c D aI aB H0 io Lv K0 mc ms (H.setIfInBounds (io a) (arrV aI n1 (fun j => .int (mcp M a0 sp.toNatClampNeg a dp.toNatClampNeg n.toNatClampNeg a j)))) _ cells slots la cx hS (j_H_wr hH (Or.inl (by decide)) hA.2.2 hL1 hA.2.1 (by simp) oq (fun x hx => by funext j; simp [mcp, hx]) ⟨fun _ => ⟨by simp [Array.getElem?_setIfInBounds, hl9], hA.2.1⟩, by omega, by omega, fun ci => by omega⟩) hl hll (j_live_t (j_live_t (j_live_t (j_live_t (j_live_t hst))))) (j_locs hlo (fun q hq => by
      obtain ⟨z, -, hz⟩ := List.mem_map.mp hq
      rw [← hz]
      exact hA.2.1)) (by rw [j_cc_mcp]; exact h1) (by rw [j_cs_mcp]; exact h2) ((T.setVm vm').setCell (io a) (arrV aI n1 (fun j => .int (mcp M a0 sp.toNatClampNeg a dp.toNatClampNeg n.toNatClampNeg a j)))) (by rw [← hT]; rfl) X'
  exact ⟨t, step t a1, b1⟩
theorem K_acopy {sp dp n : Int32} {n0 a0 n1 a ix : Nat} (d : decode cc pc = .ok (.invokestatic ix, 3)) (hlk : Cond.methodLink y.cls ix arraycopyName ∈ j_ws) (hnat : Cond.native arraycopyName ∈ j_ws) (hstat : Cond.static arraycopyName ∈ j_ws) (hini : Cond.initialized "java/lang/System" ∈ j_ws) (hfr : 1 ≤ fr) (hlo9 : st.length + (nativeFrameWords "java/lang/System" "arraycopy" 5 + 11) ≤ lo) (hq : pc + 3 = q) (h : ∀ M1, J y cc nL ret fr lo em q ll st M1 (XM M1)) : J y cc nL ret fr lo em pc ll (.inl n :: .inl dp :: .inr (1, n1, a) :: .inl sp :: .inr (1, n0, a0) :: st) M (gc sp dp n n0 n1 (oml (mcp M a0 sp.toNatClampNeg a dp.toNatClampNeg n.toNatClampNeg) XM)) := by subst hq; exact J_acopy d hlk hnat hstat hini hfr hlo9 (h _)
/-- Math.max -/
theorem K_max {x z : Int32} {ix : Nat} (d : decode cc pc = .ok (.invokestatic ix, 3)) (hlk : Cond.methodLink y.cls ix Lib.Math.max.name ∈ j_ws) (hstat : Cond.static Lib.Math.max.name ∈ j_ws) (hini : Cond.initialized "java/lang/Math" ∈ j_ws) (hcode : Cond.code Lib.Math.max.name Lib.Math.max.code 2 (some .int) ∈ j_ws) (hfr : 1 ≤ fr) (hlo9 : st.length + 13 ≤ lo) (hq : pc + 3 = q) (h : ∀ v, J y cc nL ret fr lo em q ll (.inl v :: st) M (XI v)) : J y cc nL ret fr lo em pc ll (.inl z :: .inl x :: st) M (oli (if x < z then z else x) XI) := by
  subst hq
  intro r hr
  have hh := h (if x < z then z else x) r hr
  refine ⟨hh.1, ?_⟩
  intro p l e s m args below meth c D aI aB H0 io Lv K0 mc ms H locs cells slots la cx hS hH hl hll hst hlo h1 h2
  have c1 := hh.1.1
  have c2 := hh.1.2
  simp only [List.map_cons, j_si]
  exact va_mmax cx.1 cx.2.1 (by rw [cx.2.2.2.1]; exact hl.1.symm) cx.2.2.2.2.2.1 (cx.2.2.2.2.1 _ hlk) (cx.2.2.2.2.1 _ hstat) (cx.2.2.2.2.1 _ hini) (cx.2.2.2.2.1 _ hcode) hfr (by rw [j_catsum]; exact hlo9) (by show cells ≤ mc; omega) (by show slots ≤ ms; omega) d (hh.2 p l e s m args below meth c D aI aB H0 io Lv K0 mc ms H locs cells slots la cx hS hH hl hll (j_live_c (j_live_i _) (j_live_t (j_live_t hst))) hlo h1 h2)
/-- a static field that holds a row that is only read -/
theorem K_gstat {ix n a : Nat} {C f ds : String} (d : decode cc pc = .ok (.getstatic ix, 3)) (hlk : Cond.fieldLink y.cls ix C f ds ∈ j_ws) (hz : ∀ io Lv s H0, j_Cst io Lv s H0 → Lv 3 n a ∧ va_Z C f ds (.ref (io a)) (fun q => H0.size ≤ q) s H0) (hq : pc + 3 = q) (h : J y cc nL ret fr lo em q ll (.inr (3, n, a) :: st) M X) : J y cc nL ret fr lo em pc ll st M X := by
  subst hq
  intro r hr
  refine ⟨(h r hr).1, ?_⟩
  intro p l e s m args below meth c D aI aB H0 io Lv K0 mc ms H locs cells slots la cx hS hH hl hll hst hlo h1 h2
  obtain ⟨hLv, cf, kf, fi, f9, b9, cell, z1, z2, z3, z4, z5, z6, z7, z8⟩ := hz io Lv s H0 hS.2.2
  have K := (h r hr).2 p l e s m args below meth c D aI aB H0 io Lv K0 mc ms H locs cells slots la cx hS hH hl hll (j_live_c (fun _ => hLv) hst) hlo h1 h2
  rw [List.map_cons, j_sv (by decide)] at K
  exact W.gets cx.1 cx.2.1 cx.2.2.2.2.2.1 (cx.2.2.2.2.1 _ hlk) z1 z2 z3 z4 (by rw [hH.2.1 b9 (Array.getElem?_eq_some_iff.mp z5).1]; exact z5) (fun e9 => by rw [e9] at z6; cases z6) z7 rfl d K
end JR
