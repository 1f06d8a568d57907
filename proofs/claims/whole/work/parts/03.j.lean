/-! J: a judgement over the machine in which the heap is a memory of numbers.
A reference is (kind, length, id): kind 0 null, 1 int[], 2 byte[], 3 an int[] that is only read, 4 a String constant, 5 its bytes, 6 opaque, 10 + ci an object of class ci of vwCl.
M id k: what stands in place k of the array (or in the int field k of the object) of that id. -/
abbrev j_V : Type := Int32 ⊕ (Nat × Nat × Nat)
abbrev j_M : Type := Nat → Nat → Int32
abbrev j_L : Type := Nat → Nat → Nat → Prop
def j_ws : List Cond := lw_tbl.filter goodWord
/-- Reader.KEYWORDS -/
def j_kws : List Int64 := [0, 1819238756, 495874699877, 6382692, 1919251316, 418346264942, 435778315124, 28259013971305842, 1818325876, 1953063787, 1667329133, 26479, 123623862526841]
def j_len : List Nat := [5, 7, 4, 4, 4, 2, 6, 4, 5, 3, 4, 5]
def j_byt : List (List Int32) := [[101, 118, 105, 99, 116], [100, 101, 108, 105, 118, 101, 114], [108, 97, 115, 116], [116, 105, 99, 107], [99, 97, 108, 109], [103, 111], [112, 111, 108, 105, 99, 121], [108, 111, 97, 100], [115, 116, 111, 114, 101], [97, 100, 100], [114, 101, 115, 116], [97, 103, 97, 105, 110]]
def j_txt : List (String × Nat × Nat × String) := [(RX12, 218, 0, "evict"), (RX12, 224, 1, "deliver"), (RX12, 226, 2, "last"), (RX12, 228, 3, "tick"), (RX12, 230, 4, "calm"), (RX12, 232, 5, "go"), (RX12, 234, 6, "policy"), (RX12, 236, 7, "load"), (RX12, 238, 8, "store"), (RX12, 240, 9, "add"), (RX12, 249, 10, "rest"), (RX12, 251, 11, "again")]
def j_nest : List (String × Nat × MethodName × String) := [(RX6, 11, yX5_init, RX11), (RX6, 29, yX9_init, RX11), (RX11, 18, yX8_init, RX11), (RX1, 96, yX11_isLine, RX11), (RX11, 350, yX5_init, RX11), (RX11, 266, yX10_init, RX11)]
/-- a write; id 0 is the object that holds what is made late: it is never written so -/
def mw (M : j_M) (a i : Nat) (v : Int32) : j_M := fun x j => if x = a ∧ j = i ∧ x ≠ 0 then v else M x j
def j_val (io : Nat → Nat) (x : j_V) : Value := match x with
  | .inl i => .int i
  | .inr r => if r.1 = 0 then .null else .ref (io r.2.2)
def j_live (Lv : j_L) (x : j_V) : Prop := match x with
  | .inl _ => True
  | .inr r => r.1 ≠ 0 → Lv r.1 r.2.1 r.2.2
def j_lm (io : Nat → Nat) (ll : List (Nat × j_V)) : List (Nat × Value) := ll.map (fun q => (q.1, j_val io q.2))
/-- the field k of class ci: an int (none), or a reference (kind, length, offset of the id, may be null) -/
def j_fs (ci k : Nat) : Option (Nat × Nat × Nat × Bool) := match ci, k with
  | 0, 0 => some (11, 0, 8, false) | 0, 1 => some (1, 112, 1, false) | 0, 2 => some (1, 256, 2, false) | 0, 3 => some (1, 48, 3, false) | 0, 4 => some (1, 48, 4, false) | 0, 5 => some (1, 6, 5, false) | 0, 6 => some (1, 6, 6, false) | 0, 7 => some (1, 6, 7, false)
  | 1, 0 => some (1, 100, 1, false) | 1, 1 => some (1, 49, 2, false) | 1, 2 => some (1, 49, 3, false) | 1, 3 => some (1, 49, 4, false) | 1, 4 => some (1, 360, 5, false) | 1, 5 => some (1, 6, 6, false) | 1, 6 => some (1, 6, 7, false) | 1, 7 => some (1, 6, 8, false) | 1, 8 => some (1, 6, 9, false) | 1, 9 => some (1, 6, 10, false) | 1, 10 => some (1, 6, 11, false)
  | 2, 0 => some (11, 0, 9, false) | 2, 1 => some (10, 0, 1, false) | 2, 2 => some (14, 0, 21, false)
  | 3, 0 => some (1, 400, 1, false) | 3, 1 => some (1, 200, 2, false) | 3, 2 => some (1, 3, 3, false) | 3, 3 => some (1, 3, 4, false)
  | 4, 0 => some (1, 1200, 1, false) | 4, 1 => some (1, 6, 2, false) | 4, 2 => some (1, 6, 3, false) | 4, 3 => some (1, 6, 4, false) | 4, 4 => some (1, 24, 5, false)
  | 5, 0 => some (1, 5, 1, false) | 5, 1 => some (1, 28000, 2, false) | 5, 2 => some (1, 6000, 3, false) | 5, 3 => some (1, 250, 4, false) | 5, 4 => some (1, 250, 5, false) | 5, 5 => some (1, 1024, 6, false) | 5, 6 => some (1, 6000, 7, false) | 5, 7 => some (1, 250, 8, false) | 5, 8 => some (1, 250, 9, false) | 5, 9 => some (1, 250, 10, false)
  | 6, 0 => some (12, 0, 1, false) | 6, 1 => some (13, 0, 28, false) | 6, 2 => some (12, 0, 40, true) | 6, 3 => some (10, 0, 70, true) | 6, 4 => some (15, 0, 100, true)
  | 7, 0 => some (1, 7460, 1, false) | 7, 1 => some (1, 7460, 2, false) | 7, 2 => some (1, 7460, 3, false) | 7, 4 => some (1, 9, 4, false) | 7, 5 => some (2, 400, 5, false) | 7, 6 => some (1, 1600, 6, false) | 7, 7 => some (1, 3, 7, false) | 7, 8 => some (1, 600, 8, false) | 7, 9 => some (1, 3, 9, false) | 7, 10 => some (1, 3, 10, false)
  | 7, 24 => some (1, 182979, 11, false) | 7, 25 => some (1, 251, 12, false) | 7, 26 => some (1, 6200, 13, false) | 7, 27 => some (1, 6200, 14, false) | 7, 28 => some (1, 251, 15, false)
  | _, _ => none
/-- what stands in the field k of the object id of class ci -/
def j_fv (io : Nat → Nat) (M : j_M) (ci a k : Nat) : Value := match j_fs ci k with
  | none => .int (M a k)
  | some r => if r.2.2.2 = true ∧ M a k = 0 then .null else .ref (io (a + r.2.2.1))
/-- what the heap holds of a live reference -/
def j_ok (D : va_G) (aI aB : ClassId) (z : Nat) (io : Nat → Nat) (Lv : j_L) (K0 M : j_M) (H : Heap) (k n a : Nat) : Prop :=
  (k = 1 → H[io a]? = some (arrV aI n (fun j => .int (M a j))) ∧ z ≤ io a) ∧
  (k = 2 → H[io a]? = some (arrV aB n (fun j => .int (M a j))) ∧ z ≤ io a) ∧
  ((k = 3 → M a = K0 a) ∧ (3 ≤ k → k < 6 → io a < z)) ∧
  (∀ ci, k = 10 + ci → ∃ r : vw_C, vwCl[ci]? = some r ∧ t_OB (io a) (D.1 ci) r.2.2 (D.2 ci) H (j_fv io M ci a) ∧ z ≤ io a ∧ ∀ f, f < r.2.2 → ∀ g, j_fs ci f = some g → (g.2.2.2 = false ∨ M a f ≠ 0) → Lv g.1 g.2.1 (a + g.2.2.1))
/-- what is made late is not there before it was made -/
def j_late (Lv : j_L) (M : j_M) : Prop := ∀ k n a, Lv k n a → k ≠ 0 ∧ (40 ≤ a → a < 67 → M 0 2 ≠ 0) ∧ (70 ≤ a → a < 90 → M 0 3 ≠ 0) ∧ (100 ≤ a → a < 111 → M 0 4 ≠ 0)
/-- the heap's part of the world -/
def j_H (D : va_G) (aI aB : ClassId) (H0 : Heap) (io : Nat → Nat) (Lv : j_L) (K0 M : j_M) (H : Heap) : Prop :=
  H0.size ≤ H.size ∧ (∀ q, q < H0.size → H[q]? = H0[q]?) ∧ (∀ k n a k' n' a', Lv k n a → Lv k' n' a' → (k < 3 ∨ 10 ≤ k) → (k' < 3 ∨ 10 ≤ k') → io a = io a' → a = a' ∧ k = k' ∧ n = n') ∧ (∀ k n, Lv k n 0 → k = 16) ∧ (∀ k n a, Lv k n a → j_ok D aI aB H0.size io Lv K0 M H k n a) ∧ j_late Lv M
/-- the table of longs -/
def j_Kw (s : State) (H0 : Heap) : Prop := ∃ q, va_Z RX8 "KEYWORDS" "[J" (.ref q) (fun q => H0.size ≤ q) s H0 ∧ va_T .long q 13 (fun j => .long (j_kws.getD j 0)) (fun _ => False) s H0
/-- statics and String constants -/
def j_Cst (io : Nat → Nat) (Lv : j_L) (s : State) (H0 : Heap) : Prop :=
  (Lv 3 13 300 ∧ va_Z RX0 "LOWEST" "[I" (.ref (io 300)) (fun q => H0.size ≤ q) s H0) ∧ (Lv 3 13 301 ∧ va_Z RX0 "HIGHEST" "[I" (.ref (io 301)) (fun q => H0.size ≤ q) s H0) ∧ (Lv 3 13 302 ∧ va_Z RX0 "SECOND" "[I" (.ref (io 302)) (fun q => H0.size ≤ q) s H0) ∧
  va_Z "java/lang/String" "COMPACT_STRINGS" "Z" (.int 1) (fun q => H0.size ≤ q) s H0 ∧
  (va_Z "jdk/internal/util/Preconditions" "SIOOBE_FORMATTER" "Ljava/util/function/BiFunction;" .null (fun q => H0.size ≤ q) s H0 ∨ (Lv 6 0 360 ∧ va_Z "jdk/internal/util/Preconditions" "SIOOBE_FORMATTER" "Ljava/util/function/BiFunction;" (.ref (io 360)) (fun q => H0.size ≤ q) s H0)) ∧
  vk_S 12 j_len j_byt (fun i => io (321 + i)) (fun i => io (341 + i)) (fun q => H0.size ≤ q) s H0 ∧
  (∀ i, i < 12 → Lv 4 0 (321 + i) ∧ Lv 5 (j_len.getD i 0) (341 + i)) ∧ (∀ q ∈ j_txt, vk_R q.1 q.2.1 q.2.2.2 (io (321 + q.2.2.1)) s) ∧ (∀ q ∈ j_nest, va_Nw (.methodLinkNest q.1 q.2.1 q.2.2.1 q.2.2.2) s) ∧ (∀ n u, Lv 4 n u → n = 0 ∧ ∃ i, i < 12 ∧ u = 321 + i) ∧ j_Kw s H0
def j_A (H0 : Heap) : Nat → Prop := fun q => H0.size ≤ q
/-- the part of the world that the tables and the start tell -/
def j_S (D : va_G) (aI aB : ClassId) (H0 : Heap) (io : Nat → Nat) (Lv : j_L) (K0 : j_M) (s : State) : Prop :=
  va_K D vwCl [(aI, .int), (aB, .byte)] s ∧ (∀ n a, Lv 3 n a → va_T .int (io a) n (fun j => .int (K0 a j)) (fun _ => False) s H0) ∧ j_Cst io Lv s H0
def j_ext (io : Nat → Nat) (Lv : j_L) (io' : Nat → Nat) (Lv' : j_L) : Prop := (∀ k n a, Lv k n a → Lv' k n a ∧ io' a = io a) ∧ ∀ k n a, 3 ≤ k → k < 10 → Lv' k n a → Lv k n a
def j_Q (D : va_G) (aI aB : ClassId) (H0 : Heap) (io : Nat → Nat) (Lv : j_L) (K0 : j_M) (v : Option j_V × j_M) : Array Value → State → Outcome → State → Prop := fun _ _ o t =>
  ∃ io' Lv', j_ext io Lv io' Lv' ∧ j_H D aI aB H0 io' Lv' K0 v.2 t.heap ∧ (∀ x, v.1 = some x → j_live Lv' x) ∧ o = .returned (v.1.map (j_val io'))
def j_Cx (y : MethodName) (cc : ByteArray) (nL : Nat) (ret : Option FieldType) (p : Program) (s : State) (m : MethodId) (args : Array Value) (meth : Method) (c : Code) : Prop :=
  p.tables.exec = Jvm.exec ∧ c.code = cc ∧ meth.sig.returnType = ret ∧ c.maxLocals = nL ∧ (∀ w ∈ j_ws, w.before args s = true) ∧ s.vm.findClass y.cls = some m.cls ∧ meth.locks = false
/-- what was made late: cells and slots -/
def j_cc (M : j_M) : Nat := (if M 0 2 = 0 then 0 else 27) + (if M 0 3 = 0 then 0 else 20) + (if M 0 4 = 0 then 0 else 11)
def j_cs (M : j_M) : Nat := (if M 0 2 = 0 then 0 else 2408) + (if M 0 3 = 0 then 0 else 1155) + (if M 0 4 = 0 then 0 else 42296)
def j_le (M M' : j_M) : Prop := j_cc M ≤ j_cc M' ∧ j_cs M ≤ j_cs M'
theorem j_le.rfl {M : j_M} : j_le M M := ⟨Nat.le_refl _, Nat.le_refl _⟩
theorem j_le.trans {a b c : j_M} (h : j_le a b) (h' : j_le b c) : j_le a c := ⟨Nat.le_trans h.1 h'.1, Nat.le_trans h.2 h'.2⟩
theorem mw_0 (M : j_M) (a i : Nat) (v : Int32) (j : Nat) : mw M a i v 0 j = M 0 j := by simp [mw]
theorem j_cc_mw (M : j_M) (a i : Nat) (v : Int32) : j_cc (mw M a i v) = j_cc M := by simp [j_cc, mw_0]
theorem j_cs_mw (M : j_M) (a i : Nat) (v : Int32) : j_cs (mw M a i v) = j_cs M := by simp [j_cs, mw_0]
theorem j_le_mw (M : j_M) (a i : Nat) (v : Int32) : j_le M (mw M a i v) := by simp [j_le, j_cc_mw, j_cs_mw]
def j_ei (r : Int32 × j_M) : Option j_V × j_M := (some (.inl r.1), r.2)
def j_ev (r : j_M) : Option j_V × j_M := (none, r)
/-- the judgement: from pc, locals ll, stack st and memory M the method comes to its end with what X tells (nothing is said where X is none) -/
def J {ρ : Type} (y : MethodName) (cc : ByteArray) (nL : Nat) (ret : Option FieldType) (fr lo : Nat) (em : ρ → Option j_V × j_M) (pc : Nat) (ll : List (Nat × j_V)) (st : List j_V) (M : j_M) (X : Option ρ) : Prop :=
  ∀ r : ρ, X = some r → j_le M (em r).2 ∧ ∀ (p : Program) (l : Launch) (e : Env) (s : State) (m : MethodId) (args : Array Value) (below : List Frame) (meth : Method) (c : Code) (D : va_G) (aI aB : ClassId) (H0 : Heap) (io : Nat → Nat) (Lv : j_L) (K0 : j_M) (mc ms : Nat) (H : Heap) (locs : List Loc) (cells slots : Nat) (la : Array Slot),
    j_Cx y cc nL ret p s m args meth c → j_S D aI aB H0 io Lv K0 s → j_H D aI aB H0 io Lv K0 M H → lv_has la nL (j_lm io ll) → (∀ q ∈ ll, j_live Lv q.2) → (∀ x ∈ st, j_live Lv x) → (∀ q ∈ locs, H0.size ≤ q.base) → cells + j_cc (em r).2 ≤ mc + j_cc M → slots + j_cs (em r).2 ≤ ms + j_cs M →
    W p l e { frames := fr, cells := mc, slots := ms, locals := lo } s m args below meth c H locs cells slots (MQ below (j_Q D aI aB H0 io Lv K0 (em r)) args s mc ms (fun q => H0.size ≤ q)) (F0 m pc la (st.map (j_val io)))
def gd {ρ : Type} (i : Int32) (n : Nat) (X : Option ρ) : Option ρ := if i < 0 ∨ n ≤ i.toNatClampNeg then none else X
def gn {ρ : Type} (i : Int32) (X : Option ρ) : Option ρ := if i = 0 then none else X
def gz {ρ : Type} (v : Int32) (X : Option ρ) : Option ρ := if v = 0 ∨ v = 1 then X else none
def obi {ρ : Type} (F : Option (Int32 × j_M)) (X : Int32 → j_M → Option ρ) : Option ρ := F.bind (fun r => X r.1 r.2)
def obv {ρ : Type} (F : Option j_M) (X : j_M → Option ρ) : Option ρ := F.bind X
theorem gd_some {ρ : Type} {i : Int32} {n : Nat} {X : Option ρ} {r : ρ} (h : gd i n X = some r) : vp_in i n ∧ X = some r := by
  unfold gd at h
  by_cases hc : i < 0 ∨ n ≤ i.toNatClampNeg
  · rw [if_pos hc] at h; cases h
  · rw [if_neg hc] at h; exact ⟨hc, h⟩
theorem gn_some {ρ : Type} {i : Int32} {X : Option ρ} {r : ρ} (h : gn i X = some r) : ¬ i = 0 ∧ X = some r := by
  unfold gn at h
  by_cases hc : i = 0
  · rw [if_pos hc] at h; cases h
  · rw [if_neg hc] at h; exact ⟨hc, h⟩
theorem gz_some {ρ : Type} {i : Int32} {X : Option ρ} {r : ρ} (h : gz i X = some r) : (i = 0 ∨ i = 1) ∧ X = some r := by
  unfold gz at h
  by_cases hc : i = 0 ∨ i = 1
  · rw [if_pos hc] at h; exact ⟨hc, h⟩
  · rw [if_neg hc] at h; cases h
/-! lists of live things -/
theorem j_live_i {Lv : j_L} (i : Int32) : j_live Lv (.inl i) := trivial
theorem j_live_c {Lv : j_L} {x : j_V} {st : List j_V} (h : j_live Lv x) (hs : ∀ x ∈ st, j_live Lv x) : ∀ z ∈ x :: st, j_live Lv z := fun z hz => by
  rcases List.mem_cons.mp hz with rfl | h1
  · exact h
  · exact hs z h1
theorem j_live_t {Lv : j_L} {x : j_V} {st : List j_V} (hs : ∀ z ∈ x :: st, j_live Lv z) : ∀ z ∈ st, j_live Lv z := fun z hz => hs z (List.mem_cons_of_mem _ hz)
theorem j_live_h {Lv : j_L} {x : j_V} {st : List j_V} (hs : ∀ z ∈ x :: st, j_live Lv z) : j_live Lv x := hs x List.mem_cons_self
theorem j_val_cat (io : Nat → Nat) (x : j_V) : (j_val io x).category = 1 := by
  rcases x with i | ⟨k, n, a⟩
  · rfl
  · unfold j_val; by_cases h : k = 0 <;> simp [h] <;> rfl
theorem j_lm_at {io : Nat → Nat} {ll : List (Nat × j_V)} {la : Array Slot} {nL k i : Nat} {x : j_V} (hl : lv_has la nL (j_lm io ll)) (hk : ll[k]? = some (i, x)) : la[i]? = some (.val (j_val io x)) :=
  lv_at hl k (by unfold j_lm; rw [List.getElem?_map, hk]; rfl)
theorem j_lm_set {io : Nat → Nat} {ll ll' : List (Nat × j_V)} {i : Nat} {x : j_V} (h : (i, x) :: ll.filter (fun q => !(q.1 == i)) = ll') : (i, j_val io x) :: (j_lm io ll).filter (fun q => !(q.1 == i) && !(q.1 + 1 == i && q.2.category == 2)) = j_lm io ll' := by
  subst h
  unfold j_lm
  rw [List.map_cons, List.filter_map]
  congr 2
  apply List.filter_congr
  intro q _
  simp [j_val_cat]
theorem j_ll_set {Lv : j_L} {ll ll' : List (Nat × j_V)} {i : Nat} {x : j_V} (h : (i, x) :: ll.filter (fun q => !(q.1 == i)) = ll') (hx : j_live Lv x) (hll : ∀ q ∈ ll, j_live Lv q.2) : ∀ q ∈ ll', j_live Lv q.2 := by
  subst h
  intro q hq
  rcases List.mem_cons.mp hq with rfl | h1
  · exact hx
  · exact hll q (List.mem_filter.mp h1).1
section JR
variable {ρ : Type} {y : MethodName} {cc : ByteArray} {nL : Nat} {ret : Option FieldType} {fr lo : Nat} {em : ρ → Option j_V × j_M} {pc : Nat} {ll : List (Nat × j_V)} {st : List j_V} {M : j_M} {X : Option ρ}
/-- fewer locals are asked for -/
theorem J_sub (ks : List Nat) {ll' : List (Nat × j_V)} (h : J y cc nL ret fr lo em pc ll' st M X) (hk : ks.filterMap (fun k => ll[k]?) = ll') : J y cc nL ret fr lo em pc ll st M X := by
  intro r hr
  refine ⟨(h r hr).1, ?_⟩
  intro p l e s m args below meth c D aI aB H0 io Lv K0 mc ms H locs cells slots la cx hS hH hl hll hst hlo h1 h2
  have hm : ∀ q ∈ ll', q ∈ ll := fun q hq => by
    subst hk
    obtain ⟨i, -, hi⟩ := List.mem_filterMap.mp hq
    exact List.mem_of_getElem? hi
  refine (h r hr).2 p l e s m args below meth c D aI aB H0 io Lv K0 mc ms H locs cells slots la cx hS hH ⟨hl.1, hl.2.1, fun q hq => ?_⟩ (fun q hq => hll q (hm q hq)) hst hlo h1 h2
  obtain ⟨q', hq', rfl⟩ := List.mem_map.mp hq
  exact hl.2.2 _ (List.mem_map.mpr ⟨q', hm q' hq', rfl⟩)
theorem J_none : J y cc nL ret fr lo em pc ll st M (none : Option ρ) := fun r hr => by cases hr

theorem J_iconst {n : Int} {v : Int32} (d : decode cc pc = .ok (.iconst n, 1)) (hv : Int32.ofInt n = v) (h : J y cc nL ret fr lo em (pc + 1) ll (.inl v :: st) M X) : J y cc nL ret fr lo em pc ll (st) M X := by
  intro r hr
  refine ⟨(h r hr).1, ?_⟩
  intro p l e s m args below meth c D aI aB H0 io Lv K0 mc ms H locs cells slots la cx hS hH hl hll hst hlo h1 h2
  refine lv_iconst cx.1 cx.2.1 d hv ?_
  exact (h r hr).2 p l e s m args below meth c D aI aB H0 io Lv K0 mc ms H locs cells slots la cx hS hH hl hll (j_live_c (j_live_i _) hst) hlo h1 h2
theorem J_bipush {n : Int} {v : Int32} (d : decode cc pc = .ok (.bipush n, 2)) (hv : (Int8.ofInt n).toInt32 = v) (h : J y cc nL ret fr lo em (pc + 2) ll (.inl v :: st) M X) : J y cc nL ret fr lo em pc ll (st) M X := by
  intro r hr
  refine ⟨(h r hr).1, ?_⟩
  intro p l e s m args below meth c D aI aB H0 io Lv K0 mc ms H locs cells slots la cx hS hH hl hll hst hlo h1 h2
  refine lv_bipush cx.1 cx.2.1 d hv ?_
  exact (h r hr).2 p l e s m args below meth c D aI aB H0 io Lv K0 mc ms H locs cells slots la cx hS hH hl hll (j_live_c (j_live_i _) hst) hlo h1 h2
theorem J_sipush {n : Int} {v : Int32} (d : decode cc pc = .ok (.sipush n, 3)) (hv : (Int16.ofInt n).toInt32 = v) (h : J y cc nL ret fr lo em (pc + 3) ll (.inl v :: st) M X) : J y cc nL ret fr lo em pc ll (st) M X := by
  intro r hr
  refine ⟨(h r hr).1, ?_⟩
  intro p l e s m args below meth c D aI aB H0 io Lv K0 mc ms H locs cells slots la cx hS hH hl hll hst hlo h1 h2
  refine lv_sipush cx.1 cx.2.1 d hv ?_
  exact (h r hr).2 p l e s m args below meth c D aI aB H0 io Lv K0 mc ms H locs cells slots la cx hS hH hl hll (j_live_c (j_live_i _) hst) hlo h1 h2
theorem J_ldc {ix : Nat} {v : Int32} (d : decode cc pc = .ok (.ldc ix, 2)) (hc : Cond.constant y.cls ix v ∈ j_ws) (h : J y cc nL ret fr lo em (pc + 2) ll (.inl v :: st) M X) : J y cc nL ret fr lo em pc ll (st) M X := by
  intro r hr
  refine ⟨(h r hr).1, ?_⟩
  intro p l e s m args below meth c D aI aB H0 io Lv K0 mc ms H locs cells slots la cx hS hH hl hll hst hlo h1 h2
  refine lv_ldc cx.1 cx.2.1 cx.2.2.2.2.2.1 (cx.2.2.2.2.1 _ hc) d ?_
  exact (h r hr).2 p l e s m args below meth c D aI aB H0 io Lv K0 mc ms H locs cells slots la cx hS hH hl hll (j_live_c (j_live_i _) hst) hlo h1 h2
theorem J_ldcw {ix : Nat} {v : Int32} (d : decode cc pc = .ok (.ldc_w ix, 3)) (hc : Cond.constant y.cls ix v ∈ j_ws) (h : J y cc nL ret fr lo em (pc + 3) ll (.inl v :: st) M X) : J y cc nL ret fr lo em pc ll (st) M X := by
  intro r hr
  refine ⟨(h r hr).1, ?_⟩
  intro p l e s m args below meth c D aI aB H0 io Lv K0 mc ms H locs cells slots la cx hS hH hl hll hst hlo h1 h2
  refine lv_ldcw cx.1 cx.2.1 cx.2.2.2.2.2.1 (cx.2.2.2.2.1 _ hc) d ?_
  exact (h r hr).2 p l e s m args below meth c D aI aB H0 io Lv K0 mc ms H locs cells slots la cx hS hH hl hll (j_live_c (j_live_i _) hst) hlo h1 h2
theorem J_iload_n {f : Fin 4} {i : Nat} {x : Int32} (k : Nat) (d : decode cc pc = .ok (.iload_n f, 1)) (hi : (f : Nat) = i) (hk : ll[k]? = some (i, .inl x)) (h : J y cc nL ret fr lo em (pc + 1) ll (.inl x :: st) M X) : J y cc nL ret fr lo em pc ll (st) M X := by
  intro r hr
  refine ⟨(h r hr).1, ?_⟩
  intro p l e s m args below meth c D aI aB H0 io Lv K0 mc ms H locs cells slots la cx hS hH hl hll hst hlo h1 h2
  refine lv_iload_n cx.1 cx.2.1 d hi (j_lm_at hl hk) ?_
  exact (h r hr).2 p l e s m args below meth c D aI aB H0 io Lv K0 mc ms H locs cells slots la cx hS hH hl hll (j_live_c (j_live_i _) hst) hlo h1 h2
theorem J_iload {i : Nat} {x : Int32} (k : Nat) (d : decode cc pc = .ok (.iload i, 2)) (hk : ll[k]? = some (i, .inl x)) (h : J y cc nL ret fr lo em (pc + 2) ll (.inl x :: st) M X) : J y cc nL ret fr lo em pc ll (st) M X := by
  intro r hr
  refine ⟨(h r hr).1, ?_⟩
  intro p l e s m args below meth c D aI aB H0 io Lv K0 mc ms H locs cells slots la cx hS hH hl hll hst hlo h1 h2
  refine lv_iload cx.1 cx.2.1 d (j_lm_at hl hk) ?_
  exact (h r hr).2 p l e s m args below meth c D aI aB H0 io Lv K0 mc ms H locs cells slots la cx hS hH hl hll (j_live_c (j_live_i _) hst) hlo h1 h2
theorem J_iadd {x z : Int32} (d : decode cc pc = .ok (.iadd, 1)) (h : J y cc nL ret fr lo em (pc + 1) ll (.inl (x + z) :: st) M X) : J y cc nL ret fr lo em pc ll (.inl z :: .inl x :: st) M X := by
  intro r hr
  refine ⟨(h r hr).1, ?_⟩
  intro p l e s m args below meth c D aI aB H0 io Lv K0 mc ms H locs cells slots la cx hS hH hl hll hst hlo h1 h2
  refine lv_iadd cx.1 cx.2.1 d ?_
  exact (h r hr).2 p l e s m args below meth c D aI aB H0 io Lv K0 mc ms H locs cells slots la cx hS hH hl hll (j_live_c (j_live_i _) (j_live_t (j_live_t hst))) hlo h1 h2
theorem J_isub {x z : Int32} (d : decode cc pc = .ok (.isub, 1)) (h : J y cc nL ret fr lo em (pc + 1) ll (.inl (x - z) :: st) M X) : J y cc nL ret fr lo em pc ll (.inl z :: .inl x :: st) M X := by
  intro r hr
  refine ⟨(h r hr).1, ?_⟩
  intro p l e s m args below meth c D aI aB H0 io Lv K0 mc ms H locs cells slots la cx hS hH hl hll hst hlo h1 h2
  refine lv_isub cx.1 cx.2.1 d ?_
  exact (h r hr).2 p l e s m args below meth c D aI aB H0 io Lv K0 mc ms H locs cells slots la cx hS hH hl hll (j_live_c (j_live_i _) (j_live_t (j_live_t hst))) hlo h1 h2
theorem J_imul {x z : Int32} (d : decode cc pc = .ok (.imul, 1)) (h : J y cc nL ret fr lo em (pc + 1) ll (.inl (x * z) :: st) M X) : J y cc nL ret fr lo em pc ll (.inl z :: .inl x :: st) M X := by
  intro r hr
  refine ⟨(h r hr).1, ?_⟩
  intro p l e s m args below meth c D aI aB H0 io Lv K0 mc ms H locs cells slots la cx hS hH hl hll hst hlo h1 h2
  refine lv_imul cx.1 cx.2.1 d ?_
  exact (h r hr).2 p l e s m args below meth c D aI aB H0 io Lv K0 mc ms H locs cells slots la cx hS hH hl hll (j_live_c (j_live_i _) (j_live_t (j_live_t hst))) hlo h1 h2
theorem J_iand {x z : Int32} (d : decode cc pc = .ok (.iand, 1)) (h : J y cc nL ret fr lo em (pc + 1) ll (.inl (x &&& z) :: st) M X) : J y cc nL ret fr lo em pc ll (.inl z :: .inl x :: st) M X := by
  intro r hr
  refine ⟨(h r hr).1, ?_⟩
  intro p l e s m args below meth c D aI aB H0 io Lv K0 mc ms H locs cells slots la cx hS hH hl hll hst hlo h1 h2
  refine lv_iand cx.1 cx.2.1 d ?_
  exact (h r hr).2 p l e s m args below meth c D aI aB H0 io Lv K0 mc ms H locs cells slots la cx hS hH hl hll (j_live_c (j_live_i _) (j_live_t (j_live_t hst))) hlo h1 h2
theorem J_ior {x z : Int32} (d : decode cc pc = .ok (.ior, 1)) (h : J y cc nL ret fr lo em (pc + 1) ll (.inl (x ||| z) :: st) M X) : J y cc nL ret fr lo em pc ll (.inl z :: .inl x :: st) M X := by
  intro r hr
  refine ⟨(h r hr).1, ?_⟩
  intro p l e s m args below meth c D aI aB H0 io Lv K0 mc ms H locs cells slots la cx hS hH hl hll hst hlo h1 h2
  refine lv_ior cx.1 cx.2.1 d ?_
  exact (h r hr).2 p l e s m args below meth c D aI aB H0 io Lv K0 mc ms H locs cells slots la cx hS hH hl hll (j_live_c (j_live_i _) (j_live_t (j_live_t hst))) hlo h1 h2
theorem J_ixor {x z : Int32} (d : decode cc pc = .ok (.ixor, 1)) (h : J y cc nL ret fr lo em (pc + 1) ll (.inl (x ^^^ z) :: st) M X) : J y cc nL ret fr lo em pc ll (.inl z :: .inl x :: st) M X := by
  intro r hr
  refine ⟨(h r hr).1, ?_⟩
  intro p l e s m args below meth c D aI aB H0 io Lv K0 mc ms H locs cells slots la cx hS hH hl hll hst hlo h1 h2
  refine lv_ixor cx.1 cx.2.1 d ?_
  exact (h r hr).2 p l e s m args below meth c D aI aB H0 io Lv K0 mc ms H locs cells slots la cx hS hH hl hll (j_live_c (j_live_i _) (j_live_t (j_live_t hst))) hlo h1 h2
theorem J_ishl {x z : Int32} (d : decode cc pc = .ok (.ishl, 1)) (h : J y cc nL ret fr lo em (pc + 1) ll (.inl (x <<< (z &&& 31)) :: st) M X) : J y cc nL ret fr lo em pc ll (.inl z :: .inl x :: st) M X := by
  intro r hr
  refine ⟨(h r hr).1, ?_⟩
  intro p l e s m args below meth c D aI aB H0 io Lv K0 mc ms H locs cells slots la cx hS hH hl hll hst hlo h1 h2
  refine lv_ishl cx.1 cx.2.1 d ?_
  exact (h r hr).2 p l e s m args below meth c D aI aB H0 io Lv K0 mc ms H locs cells slots la cx hS hH hl hll (j_live_c (j_live_i _) (j_live_t (j_live_t hst))) hlo h1 h2
theorem J_ishr {x z : Int32} (d : decode cc pc = .ok (.ishr, 1)) (h : J y cc nL ret fr lo em (pc + 1) ll (.inl (x >>> (z &&& 31)) :: st) M X) : J y cc nL ret fr lo em pc ll (.inl z :: .inl x :: st) M X := by
  intro r hr
  refine ⟨(h r hr).1, ?_⟩
  intro p l e s m args below meth c D aI aB H0 io Lv K0 mc ms H locs cells slots la cx hS hH hl hll hst hlo h1 h2
  refine lv_ishr cx.1 cx.2.1 d ?_
  exact (h r hr).2 p l e s m args below meth c D aI aB H0 io Lv K0 mc ms H locs cells slots la cx hS hH hl hll (j_live_c (j_live_i _) (j_live_t (j_live_t hst))) hlo h1 h2
def us (x z : Int32) : Int32 := (x.toUInt32 >>> (z.toUInt32 &&& Int32.toUInt32 31)).toInt32
theorem J_iushr {x z : Int32} (d : decode cc pc = .ok (.iushr, 1)) (h : J y cc nL ret fr lo em (pc + 1) ll (.inl (us x z) :: st) M X) : J y cc nL ret fr lo em pc ll (.inl z :: .inl x :: st) M X := by
  intro r hr
  refine ⟨(h r hr).1, ?_⟩
  intro p l e s m args below meth c D aI aB H0 io Lv K0 mc ms H locs cells slots la cx hS hH hl hll hst hlo h1 h2
  refine lv_iushr cx.1 cx.2.1 d (v := us x z) rfl ?_
  exact (h r hr).2 p l e s m args below meth c D aI aB H0 io Lv K0 mc ms H locs cells slots la cx hS hH hl hll (j_live_c (j_live_i _) (j_live_t (j_live_t hst))) hlo h1 h2
theorem J_i2b {x : Int32} (d : decode cc pc = .ok (.i2b, 1)) (h : J y cc nL ret fr lo em (pc + 1) ll (.inl x.toInt8.toInt32 :: st) M X) : J y cc nL ret fr lo em pc ll (.inl x :: st) M X := by
  intro r hr
  refine ⟨(h r hr).1, ?_⟩
  intro p l e s m args below meth c D aI aB H0 io Lv K0 mc ms H locs cells slots la cx hS hH hl hll hst hlo h1 h2
  refine lv_i2b cx.1 cx.2.1 d rfl ?_
  exact (h r hr).2 p l e s m args below meth c D aI aB H0 io Lv K0 mc ms H locs cells slots la cx hS hH hl hll (j_live_c (j_live_i _) (j_live_t hst)) hlo h1 h2
theorem J_i2c {x : Int32} (d : decode cc pc = .ok (.i2c, 1)) (h : J y cc nL ret fr lo em (pc + 1) ll (.inl (x.toUInt32 % 65536).toInt32 :: st) M X) : J y cc nL ret fr lo em pc ll (.inl x :: st) M X := by
  intro r hr
  refine ⟨(h r hr).1, ?_⟩
  intro p l e s m args below meth c D aI aB H0 io Lv K0 mc ms H locs cells slots la cx hS hH hl hll hst hlo h1 h2
  refine lv_i2c cx.1 cx.2.1 d rfl ?_
  exact (h r hr).2 p l e s m args below meth c D aI aB H0 io Lv K0 mc ms H locs cells slots la cx hS hH hl hll (j_live_c (j_live_i _) (j_live_t hst)) hlo h1 h2
theorem J_dup {x : j_V} (d : decode cc pc = .ok (.dup, 1)) (h : J y cc nL ret fr lo em (pc + 1) ll (x :: x :: st) M X) : J y cc nL ret fr lo em pc ll (x :: st) M X := by
  intro r hr
  refine ⟨(h r hr).1, ?_⟩
  intro p l e s m args below meth c D aI aB H0 io Lv K0 mc ms H locs cells slots la cx hS hH hl hll hst hlo h1 h2
  refine lv_dup cx.1 cx.2.1 d (j_val_cat io x) ?_
  exact (h r hr).2 p l e s m args below meth c D aI aB H0 io Lv K0 mc ms H locs cells slots la cx hS hH hl hll (j_live_c (j_live_h hst) hst) hlo h1 h2
theorem J_pop {x : j_V} (d : decode cc pc = .ok (.pop, 1)) (h : J y cc nL ret fr lo em (pc + 1) ll (st) M X) : J y cc nL ret fr lo em pc ll (x :: st) M X := by
  intro r hr
  refine ⟨(h r hr).1, ?_⟩
  intro p l e s m args below meth c D aI aB H0 io Lv K0 mc ms H locs cells slots la cx hS hH hl hll hst hlo h1 h2
  refine lv_pop cx.1 cx.2.1 d (j_val_cat io x) ?_
  exact (h r hr).2 p l e s m args below meth c D aI aB H0 io Lv K0 mc ms H locs cells slots la cx hS hH hl hll (j_live_t hst) hlo h1 h2
theorem J_dup2 {x z : j_V} (d : decode cc pc = .ok (.dup2, 1)) (h : J y cc nL ret fr lo em (pc + 1) ll (x :: z :: x :: z :: st) M X) : J y cc nL ret fr lo em pc ll (x :: z :: st) M X := by
  intro r hr
  refine ⟨(h r hr).1, ?_⟩
  intro p l e s m args below meth c D aI aB H0 io Lv K0 mc ms H locs cells slots la cx hS hH hl hll hst hlo h1 h2
  refine lv_dup2_11 cx.1 cx.2.1 d (j_val_cat io x) (j_val_cat io z) ?_
  exact (h r hr).2 p l e s m args below meth c D aI aB H0 io Lv K0 mc ms H locs cells slots la cx hS hH hl hll (j_live_c (j_live_h hst) (j_live_c (j_live_h (j_live_t hst)) hst)) hlo h1 h2
theorem J_aload_n {f : Fin 4} {i : Nat} {g : Nat × Nat × Nat} (k : Nat) (d : decode cc pc = .ok (.aload_n f, 1)) (hi : (f : Nat) = i) (hk : ll[k]? = some (i, .inr g)) (h : J y cc nL ret fr lo em (pc + 1) ll (.inr g :: st) M X) : J y cc nL ret fr lo em pc ll st M X := by
  intro r hr
  refine ⟨(h r hr).1, ?_⟩
  intro p l e s m args below meth c D aI aB H0 io Lv K0 mc ms H locs cells slots la cx hS hH hl hll hst hlo h1 h2
  have hat := j_lm_at hl hk
  have K := (h r hr).2 p l e s m args below meth c D aI aB H0 io Lv K0 mc ms H locs cells slots la cx hS hH hl hll (j_live_c (hll _ (List.mem_of_getElem? hk)) hst) hlo h1 h2
  by_cases hz : g.1 = 0
  · have e9 : j_val io (.inr g) = .null := by simp [j_val, hz]
    rw [List.map_cons, e9] at K
    rw [e9] at hat
    exact lv_aload_nN cx.1 cx.2.1 d hi hat K
  · have e9 : j_val io (.inr g) = .ref (io g.2.2) := by simp [j_val, hz]
    rw [List.map_cons, e9] at K
    rw [e9] at hat
    exact lv_aload_n cx.1 cx.2.1 d hi hat K
theorem J_aload {i : Nat} {g : Nat × Nat × Nat} (k : Nat) (d : decode cc pc = .ok (.aload i, 2)) (hk : ll[k]? = some (i, .inr g)) (h : J y cc nL ret fr lo em (pc + 2) ll (.inr g :: st) M X) : J y cc nL ret fr lo em pc ll st M X := by
  intro r hr
  refine ⟨(h r hr).1, ?_⟩
  intro p l e s m args below meth c D aI aB H0 io Lv K0 mc ms H locs cells slots la cx hS hH hl hll hst hlo h1 h2
  have hat := j_lm_at hl hk
  have K := (h r hr).2 p l e s m args below meth c D aI aB H0 io Lv K0 mc ms H locs cells slots la cx hS hH hl hll (j_live_c (hll _ (List.mem_of_getElem? hk)) hst) hlo h1 h2
  by_cases hz : g.1 = 0
  · have e9 : j_val io (.inr g) = .null := by simp [j_val, hz]
    rw [List.map_cons, e9] at K
    rw [e9] at hat
    exact lv_aloadN cx.1 cx.2.1 d hat K
  · have e9 : j_val io (.inr g) = .ref (io g.2.2) := by simp [j_val, hz]
    rw [List.map_cons, e9] at K
    rw [e9] at hat
    exact lv_aload cx.1 cx.2.1 d hat K
theorem J_istore_n {f : Fin 4} {i : Nat} {x : Int32} {ll' : List (Nat × j_V)} (d : decode cc pc = .ok (.istore_n f, 1)) (hi : (f : Nat) = i) (hn : i < nL) (hs : (i, .inl x) :: ll.filter (fun q => !(q.1 == i)) = ll') (h : J y cc nL ret fr lo em (pc + 1) ll' st M X) : J y cc nL ret fr lo em pc ll (.inl x :: st) M X := by
  intro r hr
  refine ⟨(h r hr).1, ?_⟩
  intro p l e s m args below meth c D aI aB H0 io Lv K0 mc ms H locs cells slots la cx hS hH hl hll hst hlo h1 h2
  refine lv_istore_n cx.1 cx.2.1 d hi hl hn (j_lm_set (io := io) hs) (fun la' hl' => ?_)
  exact (h r hr).2 p l e s m args below meth c D aI aB H0 io Lv K0 mc ms H locs cells slots la' cx hS hH hl' (j_ll_set hs (j_live_i _) hll) (j_live_t hst) hlo h1 h2
theorem J_istore {i : Nat} {x : Int32} {ll' : List (Nat × j_V)} (d : decode cc pc = .ok (.istore i, 2)) (hn : i < nL) (hs : (i, .inl x) :: ll.filter (fun q => !(q.1 == i)) = ll') (h : J y cc nL ret fr lo em (pc + 2) ll' st M X) : J y cc nL ret fr lo em pc ll (.inl x :: st) M X := by
  intro r hr
  refine ⟨(h r hr).1, ?_⟩
  intro p l e s m args below meth c D aI aB H0 io Lv K0 mc ms H locs cells slots la cx hS hH hl hll hst hlo h1 h2
  refine lv_istore cx.1 cx.2.1 d hl hn (j_lm_set (io := io) hs) (fun la' hl' => ?_)
  exact (h r hr).2 p l e s m args below meth c D aI aB H0 io Lv K0 mc ms H locs cells slots la' cx hS hH hl' (j_ll_set hs (j_live_i _) hll) (j_live_t hst) hlo h1 h2
theorem J_iinc {i : Nat} {n : Int} {x v : Int32} {ll' : List (Nat × j_V)} (k : Nat) (d : decode cc pc = .ok (.iinc i n, 3)) (hk : ll[k]? = some (i, .inl x)) (hv : x + Int32.ofInt n = v) (hn : i < nL) (hs : (i, .inl v) :: ll.filter (fun q => !(q.1 == i)) = ll') (h : J y cc nL ret fr lo em (pc + 3) ll' st M X) : J y cc nL ret fr lo em pc ll st M X := by
  intro r hr
  refine ⟨(h r hr).1, ?_⟩
  intro p l e s m args below meth c D aI aB H0 io Lv K0 mc ms H locs cells slots la cx hS hH hl hll hst hlo h1 h2
  refine lv_iinc cx.1 cx.2.1 (k := k) d hl (by unfold j_lm; rw [List.getElem?_map, hk]; rfl) hv hn (j_lm_set (io := io) hs) (fun la' hl' => ?_)
  exact (h r hr).2 p l e s m args below meth c D aI aB H0 io Lv K0 mc ms H locs cells slots la' cx hS hH hl' (j_ll_set hs (j_live_i _) hll) hst hlo h1 h2
theorem J_irem {x z : Int32} (d : decode cc pc = .ok (.irem, 1)) (h : J y cc nL ret fr lo em (pc + 1) ll (.inl (x - x / z * z) :: st) M X) : J y cc nL ret fr lo em pc ll (.inl z :: .inl x :: st) M (gn z X) := by
  intro r hr
  obtain ⟨hz, hr⟩ := gn_some hr
  refine ⟨(h r hr).1, ?_⟩
  intro p l e s m args below meth c D aI aB H0 io Lv K0 mc ms H locs cells slots la cx hS hH hl hll hst hlo h1 h2
  refine lv_irem cx.1 cx.2.1 d hz ?_
  exact (h r hr).2 p l e s m args below meth c D aI aB H0 io Lv K0 mc ms H locs cells slots la cx hS hH hl hll (j_live_c (j_live_i _) (j_live_t (j_live_t hst))) hlo h1 h2
theorem J_goto {off : Int} {tgt : Nat} (d : decode cc pc = .ok (.goto off, 3)) (ht : (pc : Int) + off = (tgt : Int)) (h : J y cc nL ret fr lo em tgt ll st M X) : J y cc nL ret fr lo em pc ll st M X := by
  intro r hr
  refine ⟨(h r hr).1, ?_⟩
  intro p l e s m args below meth c D aI aB H0 io Lv K0 mc ms H locs cells slots la cx hS hH hl hll hst hlo h1 h2
  refine lv_goto cx.1 cx.2.1 d ht ?_
  exact (h r hr).2 p l e s m args below meth c D aI aB H0 io Lv K0 mc ms H locs cells slots la cx hS hH hl hll hst hlo h1 h2
theorem J_if_eq {x : Int32} {off : Int} {tgt : Nat} {A B : Option ρ} (d : decode cc pc = .ok (.ifCond .eq off, 3)) (ht : (pc : Int) + off = (tgt : Int)) (ha : J y cc nL ret fr lo em tgt ll st M A) (hb : J y cc nL ret fr lo em (pc + 3) ll st M B) : J y cc nL ret fr lo em pc ll (.inl x :: st) M (if x = 0 then A else B) := by
  intro r hr
  refine ⟨?_, ?_⟩
  · by_cases hc : x = 0
    · rw [if_pos hc] at hr; exact (ha r hr).1
    · rw [if_neg hc] at hr; exact (hb r hr).1
  intro p l e s m args below meth c D aI aB H0 io Lv K0 mc ms H locs cells slots la cx hS hH hl hll hst hlo h1 h2
  refine lv_if_eq cx.1 cx.2.1 d ht (fun hc => ?_) (fun hc => ?_)
  · rw [if_pos hc] at hr
    exact (ha r hr).2 p l e s m args below meth c D aI aB H0 io Lv K0 mc ms H locs cells slots la cx hS hH hl hll (j_live_t hst) hlo h1 h2
  · rw [if_neg hc] at hr
    exact (hb r hr).2 p l e s m args below meth c D aI aB H0 io Lv K0 mc ms H locs cells slots la cx hS hH hl hll (j_live_t hst) hlo h1 h2
theorem J_icmp_eq {x z : Int32} {off : Int} {tgt : Nat} {A B : Option ρ} (d : decode cc pc = .ok (.if_icmp .eq off, 3)) (ht : (pc : Int) + off = (tgt : Int)) (ha : J y cc nL ret fr lo em tgt ll st M A) (hb : J y cc nL ret fr lo em (pc + 3) ll st M B) : J y cc nL ret fr lo em pc ll (.inl z :: .inl x :: st) M (if x = z then A else B) := by
  intro r hr
  refine ⟨?_, ?_⟩
  · by_cases hc : x = z
    · rw [if_pos hc] at hr; exact (ha r hr).1
    · rw [if_neg hc] at hr; exact (hb r hr).1
  intro p l e s m args below meth c D aI aB H0 io Lv K0 mc ms H locs cells slots la cx hS hH hl hll hst hlo h1 h2
  refine lv_icmp_eq cx.1 cx.2.1 d ht (fun hc => ?_) (fun hc => ?_)
  · rw [if_pos hc] at hr
    exact (ha r hr).2 p l e s m args below meth c D aI aB H0 io Lv K0 mc ms H locs cells slots la cx hS hH hl hll (j_live_t (j_live_t hst)) hlo h1 h2
  · rw [if_neg hc] at hr
    exact (hb r hr).2 p l e s m args below meth c D aI aB H0 io Lv K0 mc ms H locs cells slots la cx hS hH hl hll (j_live_t (j_live_t hst)) hlo h1 h2
theorem J_if_ne {x : Int32} {off : Int} {tgt : Nat} {A B : Option ρ} (d : decode cc pc = .ok (.ifCond .ne off, 3)) (ht : (pc : Int) + off = (tgt : Int)) (ha : J y cc nL ret fr lo em tgt ll st M A) (hb : J y cc nL ret fr lo em (pc + 3) ll st M B) : J y cc nL ret fr lo em pc ll (.inl x :: st) M (if x = 0 then B else A) := by
  intro r hr
  refine ⟨?_, ?_⟩
  · by_cases hc : x = 0
    · rw [if_pos hc] at hr; exact (hb r hr).1
    · rw [if_neg hc] at hr; exact (ha r hr).1
  intro p l e s m args below meth c D aI aB H0 io Lv K0 mc ms H locs cells slots la cx hS hH hl hll hst hlo h1 h2
  refine lv_if_ne cx.1 cx.2.1 d ht (fun hc => ?_) (fun hc => ?_)
  · rw [if_neg hc] at hr
    exact (ha r hr).2 p l e s m args below meth c D aI aB H0 io Lv K0 mc ms H locs cells slots la cx hS hH hl hll (j_live_t hst) hlo h1 h2
  · rw [if_pos hc] at hr
    exact (hb r hr).2 p l e s m args below meth c D aI aB H0 io Lv K0 mc ms H locs cells slots la cx hS hH hl hll (j_live_t hst) hlo h1 h2
theorem J_icmp_ne {x z : Int32} {off : Int} {tgt : Nat} {A B : Option ρ} (d : decode cc pc = .ok (.if_icmp .ne off, 3)) (ht : (pc : Int) + off = (tgt : Int)) (ha : J y cc nL ret fr lo em tgt ll st M A) (hb : J y cc nL ret fr lo em (pc + 3) ll st M B) : J y cc nL ret fr lo em pc ll (.inl z :: .inl x :: st) M (if x = z then B else A) := by
  intro r hr
  refine ⟨?_, ?_⟩
  · by_cases hc : x = z
    · rw [if_pos hc] at hr; exact (hb r hr).1
    · rw [if_neg hc] at hr; exact (ha r hr).1
  intro p l e s m args below meth c D aI aB H0 io Lv K0 mc ms H locs cells slots la cx hS hH hl hll hst hlo h1 h2
  refine lv_icmp_ne cx.1 cx.2.1 d ht (fun hc => ?_) (fun hc => ?_)
  · rw [if_neg hc] at hr
    exact (ha r hr).2 p l e s m args below meth c D aI aB H0 io Lv K0 mc ms H locs cells slots la cx hS hH hl hll (j_live_t (j_live_t hst)) hlo h1 h2
  · rw [if_pos hc] at hr
    exact (hb r hr).2 p l e s m args below meth c D aI aB H0 io Lv K0 mc ms H locs cells slots la cx hS hH hl hll (j_live_t (j_live_t hst)) hlo h1 h2
theorem J_if_lt {x : Int32} {off : Int} {tgt : Nat} {A B : Option ρ} (d : decode cc pc = .ok (.ifCond .lt off, 3)) (ht : (pc : Int) + off = (tgt : Int)) (ha : J y cc nL ret fr lo em tgt ll st M A) (hb : J y cc nL ret fr lo em (pc + 3) ll st M B) : J y cc nL ret fr lo em pc ll (.inl x :: st) M (if x < 0 then A else B) := by
  intro r hr
  refine ⟨?_, ?_⟩
  · by_cases hc : x < 0
    · rw [if_pos hc] at hr; exact (ha r hr).1
    · rw [if_neg hc] at hr; exact (hb r hr).1
  intro p l e s m args below meth c D aI aB H0 io Lv K0 mc ms H locs cells slots la cx hS hH hl hll hst hlo h1 h2
  refine lv_if_lt cx.1 cx.2.1 d ht (fun hc => ?_) (fun hc => ?_)
  · rw [if_pos hc] at hr
    exact (ha r hr).2 p l e s m args below meth c D aI aB H0 io Lv K0 mc ms H locs cells slots la cx hS hH hl hll (j_live_t hst) hlo h1 h2
  · rw [if_neg hc] at hr
    exact (hb r hr).2 p l e s m args below meth c D aI aB H0 io Lv K0 mc ms H locs cells slots la cx hS hH hl hll (j_live_t hst) hlo h1 h2
theorem J_icmp_lt {x z : Int32} {off : Int} {tgt : Nat} {A B : Option ρ} (d : decode cc pc = .ok (.if_icmp .lt off, 3)) (ht : (pc : Int) + off = (tgt : Int)) (ha : J y cc nL ret fr lo em tgt ll st M A) (hb : J y cc nL ret fr lo em (pc + 3) ll st M B) : J y cc nL ret fr lo em pc ll (.inl z :: .inl x :: st) M (if x < z then A else B) := by
  intro r hr
  refine ⟨?_, ?_⟩
  · by_cases hc : x < z
    · rw [if_pos hc] at hr; exact (ha r hr).1
    · rw [if_neg hc] at hr; exact (hb r hr).1
  intro p l e s m args below meth c D aI aB H0 io Lv K0 mc ms H locs cells slots la cx hS hH hl hll hst hlo h1 h2
  refine lv_icmp_lt cx.1 cx.2.1 d ht (fun hc => ?_) (fun hc => ?_)
  · rw [if_pos hc] at hr
    exact (ha r hr).2 p l e s m args below meth c D aI aB H0 io Lv K0 mc ms H locs cells slots la cx hS hH hl hll (j_live_t (j_live_t hst)) hlo h1 h2
  · rw [if_neg hc] at hr
    exact (hb r hr).2 p l e s m args below meth c D aI aB H0 io Lv K0 mc ms H locs cells slots la cx hS hH hl hll (j_live_t (j_live_t hst)) hlo h1 h2
theorem J_if_ge {x : Int32} {off : Int} {tgt : Nat} {A B : Option ρ} (d : decode cc pc = .ok (.ifCond .ge off, 3)) (ht : (pc : Int) + off = (tgt : Int)) (ha : J y cc nL ret fr lo em tgt ll st M A) (hb : J y cc nL ret fr lo em (pc + 3) ll st M B) : J y cc nL ret fr lo em pc ll (.inl x :: st) M (if 0 ≤ x then A else B) := by
  intro r hr
  refine ⟨?_, ?_⟩
  · by_cases hc : 0 ≤ x
    · rw [if_pos hc] at hr; exact (ha r hr).1
    · rw [if_neg hc] at hr; exact (hb r hr).1
  intro p l e s m args below meth c D aI aB H0 io Lv K0 mc ms H locs cells slots la cx hS hH hl hll hst hlo h1 h2
  refine lv_if_ge cx.1 cx.2.1 d ht (fun hc => ?_) (fun hc => ?_)
  · rw [if_pos hc] at hr
    exact (ha r hr).2 p l e s m args below meth c D aI aB H0 io Lv K0 mc ms H locs cells slots la cx hS hH hl hll (j_live_t hst) hlo h1 h2
  · rw [if_neg hc] at hr
    exact (hb r hr).2 p l e s m args below meth c D aI aB H0 io Lv K0 mc ms H locs cells slots la cx hS hH hl hll (j_live_t hst) hlo h1 h2
theorem J_icmp_ge {x z : Int32} {off : Int} {tgt : Nat} {A B : Option ρ} (d : decode cc pc = .ok (.if_icmp .ge off, 3)) (ht : (pc : Int) + off = (tgt : Int)) (ha : J y cc nL ret fr lo em tgt ll st M A) (hb : J y cc nL ret fr lo em (pc + 3) ll st M B) : J y cc nL ret fr lo em pc ll (.inl z :: .inl x :: st) M (if z ≤ x then A else B) := by
  intro r hr
  refine ⟨?_, ?_⟩
  · by_cases hc : z ≤ x
    · rw [if_pos hc] at hr; exact (ha r hr).1
    · rw [if_neg hc] at hr; exact (hb r hr).1
  intro p l e s m args below meth c D aI aB H0 io Lv K0 mc ms H locs cells slots la cx hS hH hl hll hst hlo h1 h2
  refine lv_icmp_ge cx.1 cx.2.1 d ht (fun hc => ?_) (fun hc => ?_)
  · rw [if_pos hc] at hr
    exact (ha r hr).2 p l e s m args below meth c D aI aB H0 io Lv K0 mc ms H locs cells slots la cx hS hH hl hll (j_live_t (j_live_t hst)) hlo h1 h2
  · rw [if_neg hc] at hr
    exact (hb r hr).2 p l e s m args below meth c D aI aB H0 io Lv K0 mc ms H locs cells slots la cx hS hH hl hll (j_live_t (j_live_t hst)) hlo h1 h2
theorem J_if_gt {x : Int32} {off : Int} {tgt : Nat} {A B : Option ρ} (d : decode cc pc = .ok (.ifCond .gt off, 3)) (ht : (pc : Int) + off = (tgt : Int)) (ha : J y cc nL ret fr lo em tgt ll st M A) (hb : J y cc nL ret fr lo em (pc + 3) ll st M B) : J y cc nL ret fr lo em pc ll (.inl x :: st) M (if 0 < x then A else B) := by
  intro r hr
  refine ⟨?_, ?_⟩
  · by_cases hc : 0 < x
    · rw [if_pos hc] at hr; exact (ha r hr).1
    · rw [if_neg hc] at hr; exact (hb r hr).1
  intro p l e s m args below meth c D aI aB H0 io Lv K0 mc ms H locs cells slots la cx hS hH hl hll hst hlo h1 h2
  refine lv_if_gt cx.1 cx.2.1 d ht (fun hc => ?_) (fun hc => ?_)
  · rw [if_pos hc] at hr
    exact (ha r hr).2 p l e s m args below meth c D aI aB H0 io Lv K0 mc ms H locs cells slots la cx hS hH hl hll (j_live_t hst) hlo h1 h2
  · rw [if_neg hc] at hr
    exact (hb r hr).2 p l e s m args below meth c D aI aB H0 io Lv K0 mc ms H locs cells slots la cx hS hH hl hll (j_live_t hst) hlo h1 h2
theorem J_icmp_gt {x z : Int32} {off : Int} {tgt : Nat} {A B : Option ρ} (d : decode cc pc = .ok (.if_icmp .gt off, 3)) (ht : (pc : Int) + off = (tgt : Int)) (ha : J y cc nL ret fr lo em tgt ll st M A) (hb : J y cc nL ret fr lo em (pc + 3) ll st M B) : J y cc nL ret fr lo em pc ll (.inl z :: .inl x :: st) M (if z < x then A else B) := by
  intro r hr
  refine ⟨?_, ?_⟩
  · by_cases hc : z < x
    · rw [if_pos hc] at hr; exact (ha r hr).1
    · rw [if_neg hc] at hr; exact (hb r hr).1
  intro p l e s m args below meth c D aI aB H0 io Lv K0 mc ms H locs cells slots la cx hS hH hl hll hst hlo h1 h2
  refine lv_icmp_gt cx.1 cx.2.1 d ht (fun hc => ?_) (fun hc => ?_)
  · rw [if_pos hc] at hr
    exact (ha r hr).2 p l e s m args below meth c D aI aB H0 io Lv K0 mc ms H locs cells slots la cx hS hH hl hll (j_live_t (j_live_t hst)) hlo h1 h2
  · rw [if_neg hc] at hr
    exact (hb r hr).2 p l e s m args below meth c D aI aB H0 io Lv K0 mc ms H locs cells slots la cx hS hH hl hll (j_live_t (j_live_t hst)) hlo h1 h2
theorem J_if_le {x : Int32} {off : Int} {tgt : Nat} {A B : Option ρ} (d : decode cc pc = .ok (.ifCond .le off, 3)) (ht : (pc : Int) + off = (tgt : Int)) (ha : J y cc nL ret fr lo em tgt ll st M A) (hb : J y cc nL ret fr lo em (pc + 3) ll st M B) : J y cc nL ret fr lo em pc ll (.inl x :: st) M (if x ≤ 0 then A else B) := by
  intro r hr
  refine ⟨?_, ?_⟩
  · by_cases hc : x ≤ 0
    · rw [if_pos hc] at hr; exact (ha r hr).1
    · rw [if_neg hc] at hr; exact (hb r hr).1
  intro p l e s m args below meth c D aI aB H0 io Lv K0 mc ms H locs cells slots la cx hS hH hl hll hst hlo h1 h2
  refine lv_if_le cx.1 cx.2.1 d ht (fun hc => ?_) (fun hc => ?_)
  · rw [if_pos hc] at hr
    exact (ha r hr).2 p l e s m args below meth c D aI aB H0 io Lv K0 mc ms H locs cells slots la cx hS hH hl hll (j_live_t hst) hlo h1 h2
  · rw [if_neg hc] at hr
    exact (hb r hr).2 p l e s m args below meth c D aI aB H0 io Lv K0 mc ms H locs cells slots la cx hS hH hl hll (j_live_t hst) hlo h1 h2
theorem J_icmp_le {x z : Int32} {off : Int} {tgt : Nat} {A B : Option ρ} (d : decode cc pc = .ok (.if_icmp .le off, 3)) (ht : (pc : Int) + off = (tgt : Int)) (ha : J y cc nL ret fr lo em tgt ll st M A) (hb : J y cc nL ret fr lo em (pc + 3) ll st M B) : J y cc nL ret fr lo em pc ll (.inl z :: .inl x :: st) M (if x ≤ z then A else B) := by
  intro r hr
  refine ⟨?_, ?_⟩
  · by_cases hc : x ≤ z
    · rw [if_pos hc] at hr; exact (ha r hr).1
    · rw [if_neg hc] at hr; exact (hb r hr).1
  intro p l e s m args below meth c D aI aB H0 io Lv K0 mc ms H locs cells slots la cx hS hH hl hll hst hlo h1 h2
  refine lv_icmp_le cx.1 cx.2.1 d ht (fun hc => ?_) (fun hc => ?_)
  · rw [if_pos hc] at hr
    exact (ha r hr).2 p l e s m args below meth c D aI aB H0 io Lv K0 mc ms H locs cells slots la cx hS hH hl hll (j_live_t (j_live_t hst)) hlo h1 h2
  · rw [if_neg hc] at hr
    exact (hb r hr).2 p l e s m args below meth c D aI aB H0 io Lv K0 mc ms H locs cells slots la cx hS hH hl hll (j_live_t (j_live_t hst)) hlo h1 h2
theorem J_tin {dflt lw hi : Int} {offs : Array Int} {len : Nat} {x : Int32} {off : Int} {tgt : Nat} (d : decode cc pc = .ok (.tableswitch dflt lw hi offs, len)) (a1 : ¬ x.toInt < lw) (a2 : ¬ hi < x.toInt) (ho : offs[(x.toInt - lw).toNat]? = some off) (ht : (pc : Int) + off = (tgt : Int)) (h : J y cc nL ret fr lo em tgt ll st M X) : J y cc nL ret fr lo em pc ll (.inl x :: st) M X := by
  intro r hr
  refine ⟨(h r hr).1, ?_⟩
  intro p l e s m args below meth c D aI aB H0 io Lv K0 mc ms H locs cells slots la cx hS hH hl hll hst hlo h1 h2
  refine lv_tableIn cx.1 cx.2.1 d a1 a2 ho ht ?_
  exact (h r hr).2 p l e s m args below meth c D aI aB H0 io Lv K0 mc ms H locs cells slots la cx hS hH hl hll (j_live_t hst) hlo h1 h2
theorem J_tout {dflt lw hi : Int} {offs : Array Int} {len : Nat} {x : Int32} {tgt : Nat} (d : decode cc pc = .ok (.tableswitch dflt lw hi offs, len)) (a : x.toInt < lw ∨ hi < x.toInt) (ht : (pc : Int) + dflt = (tgt : Int)) (h : J y cc nL ret fr lo em tgt ll st M X) : J y cc nL ret fr lo em pc ll (.inl x :: st) M X := by
  intro r hr
  refine ⟨(h r hr).1, ?_⟩
  intro p l e s m args below meth c D aI aB H0 io Lv K0 mc ms H locs cells slots la cx hS hH hl hll hst hlo h1 h2
  refine lv_tableOut cx.1 cx.2.1 d a ht ?_
  exact (h r hr).2 p l e s m args below meth c D aI aB H0 io Lv K0 mc ms H locs cells slots la cx hS hH hl hll (j_live_t hst) hlo h1 h2
theorem J_lsw {dflt : Int} {ps : Array (Int × Int)} {len : Nat} {x : Int32} {off : Int} {tgt : Nat} (d : decode cc pc = .ok (.lookupswitch dflt ps, len)) (hp : (ps.toList.zip (ps.toList.drop 1)).all (fun (a, next) => a.1 < next.1) = true) (ho : Op.lookupswitch.offset ps.toList dflt x.toInt = off) (ht : (pc : Int) + off = (tgt : Int)) (h : J y cc nL ret fr lo em tgt ll st M X) : J y cc nL ret fr lo em pc ll (.inl x :: st) M X := by
  intro r hr
  refine ⟨(h r hr).1, ?_⟩
  intro p l e s m args below meth c D aI aB H0 io Lv K0 mc ms H locs cells slots la cx hS hH hl hll hst hlo h1 h2
  refine lv_lookup cx.1 cx.2.1 d hp ho ht ?_
  exact (h r hr).2 p l e s m args below meth c D aI aB H0 io Lv K0 mc ms H locs cells slots la cx hS hH hl hll (j_live_t hst) hlo h1 h2
end JR
