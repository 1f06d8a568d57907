/-! making objects: the cells that a constructor makes or fills stand in a list, with their addresses -/
def n_at (D : va_G) (ci N : Nat) (V : Nat → Value) (c : Cell) : Prop := c.cls = D.1 ci ∧ c.vm = .none ∧ ∀ k, k < N → c.slots[D.2 ci k]? = some (V k)
def n_ar (cA : ClassId) (n : Nat) (f : Nat → Int32) (c : Cell) : Prop := c = arrV cA n (fun j => .int (f j))
def hb (H0 H : Heap) (n : Nat) (P : List (Nat × (Cell → Prop))) : Prop :=
  H.size = H0.size + n ∧ (∀ q, q < H0.size → (∀ x ∈ P, x.1 ≠ q) → H[q]? = H0[q]?) ∧ (∀ x ∈ P, ∃ c, H[x.1]? = some c ∧ x.2 c) ∧ ∀ (i j : Nat) (x y : Nat × (Cell → Prop)), P[i]? = some x → P[j]? = some y → x.1 = y.1 → i = j
theorem hb.push {H0 H H1 : Heap} {n : Nat} {P : List (Nat × (Cell → Prop))} (h : hb H0 H n P) {S : Cell → Prop} {cell : Cell} (h1 : H1[H.size]? = some cell) (h2 : H1.size = H.size + 1) (h3 : ∀ q, q < H.size → H1[q]? = H[q]?) (hS : S cell) : hb H0 H1 (n + 1) (P ++ [(H0.size + n, S)]) := by
  obtain ⟨a1, a2, a3, a4⟩ := h
  have hlt : ∀ x ∈ P, x.1 < H.size := fun x hx => by
    obtain ⟨c, hc, -⟩ := a3 x hx
    exact (Array.getElem?_eq_some_iff.mp hc).1
  refine ⟨by rw [h2, a1]; omega, fun q hq hn => ?_, fun x hx => ?_, fun i j x y hi hj he => ?_⟩
  · rw [h3 q (by omega)]
    exact a2 q hq fun x hx => hn x (List.mem_append_left _ hx)
  · rcases List.mem_append.mp hx with h9 | h9
    · rw [h3 _ (hlt x h9)]; exact a3 x h9
    · rw [List.mem_singleton.mp h9]; exact ⟨cell, by show H1[H0.size + n]? = _; rw [← a1]; exact h1, hS⟩
  · have ci : (i < P.length ∧ P[i]? = some x) ∨ (i = P.length ∧ x = (H0.size + n, S)) := by
      by_cases hl : i < P.length
      · rw [List.getElem?_append_left hl] at hi; exact Or.inl ⟨hl, hi⟩
      · have : i < P.length + 1 := by have := (List.getElem?_eq_some_iff.mp hi).1; simpa using this
        have e : i = P.length := by omega
        subst e
        rw [List.getElem?_append_right (Nat.le_refl _)] at hi
        simp at hi
        exact Or.inr ⟨rfl, hi.symm⟩
    have cj : (j < P.length ∧ P[j]? = some y) ∨ (j = P.length ∧ y = (H0.size + n, S)) := by
      by_cases hl : j < P.length
      · rw [List.getElem?_append_left hl] at hj; exact Or.inl ⟨hl, hj⟩
      · have : j < P.length + 1 := by have := (List.getElem?_eq_some_iff.mp hj).1; simpa using this
        have e : j = P.length := by omega
        subst e
        rw [List.getElem?_append_right (Nat.le_refl _)] at hj
        simp at hj
        exact Or.inr ⟨rfl, hj.symm⟩
    rcases ci with ⟨_, ci⟩ | ⟨ci, rfl⟩ <;> rcases cj with ⟨_, cj⟩ | ⟨cj, rfl⟩
    · exact a4 i j x y ci cj he
    · have := hlt x (List.mem_of_getElem? ci); simp at he; omega
    · have := hlt y (List.mem_of_getElem? cj); simp at he; omega
    · omega
theorem hb.set {H0 H H1 : Heap} {n : Nat} {P : List (Nat × (Cell → Prop))} (h : hb H0 H n P) {k a : Nat} {S S' : Cell → Prop} (hk : P[k]? = some (a, S)) {cell : Cell} (h1 : H1[a]? = some cell) (h2 : H1.size = H.size) (h3 : ∀ q, q ≠ a → H1[q]? = H[q]?) (hS : S' cell) : hb H0 H1 n (P.set k (a, S')) := by
  obtain ⟨a1, a2, a3, a4⟩ := h
  have hkl : k < P.length := (List.getElem?_eq_some_iff.mp hk).1
  have hset : ∀ i x, (P.set k (a, S'))[i]? = some x → (i = k ∧ x = (a, S')) ∨ (i ≠ k ∧ P[i]? = some x) := fun i x hi => by
    rw [List.getElem?_set] at hi
    by_cases e : k = i
    · subst e
      rw [if_pos rfl, if_pos hkl] at hi
      exact Or.inl ⟨rfl, (Option.some.inj hi).symm⟩
    · rw [if_neg e] at hi
      exact Or.inr ⟨fun e' => e e'.symm, hi⟩
  refine ⟨by rw [h2]; exact a1, fun q hq hn => ?_, fun x hx => ?_, fun i j x y hi hj he => ?_⟩
  · have hqa : q ≠ a := fun e => hn (a, S') (List.mem_of_getElem? (i := k) (by rw [List.getElem?_set, if_pos rfl, if_pos hkl])) e.symm
    rw [h3 q hqa]
    refine a2 q hq fun x hx => ?_
    obtain ⟨i, hi⟩ := List.getElem?_of_mem hx
    by_cases e : k = i
    · subst e
      rw [hk] at hi
      cases hi
      exact fun e => hqa e.symm
    · exact hn x (List.mem_of_getElem? (i := i) (by rw [List.getElem?_set, if_neg e]; exact hi))
  · obtain ⟨i, hi⟩ := List.getElem?_of_mem hx
    rcases hset i x hi with ⟨-, rfl⟩ | ⟨e, hi⟩
    · exact ⟨cell, h1, hS⟩
    · rw [h3 _ (fun e9 => e (a4 i k x (a, S) hi hk e9))]
      exact a3 x (List.mem_of_getElem? hi)
  · rcases hset i x hi with ⟨e1, rfl⟩ | ⟨e1, hi⟩ <;> rcases hset j y hj with ⟨e2, rfl⟩ | ⟨e2, hj⟩
    · omega
    · exact absurd (a4 j k y (a, S) hj hk he.symm) e2
    · exact absurd (a4 i k x (a, S) hi hk he) e1
    · exact a4 i j x y hi hj he
/-- an inner making joins the outer's list: its object stands at place k there, the rest is new -/
theorem hb.join {H0 H H1 : Heap} {n n' : Nat} {P P2 : List (Nat × (Cell → Prop))} (h : hb H0 H n P) {k a : Nat} {S S' : Cell → Prop} (hk : P[k]? = some (a, S)) (h' : hb H H1 n' ((a, S') :: P2)) (hn : ∀ x ∈ P2, H.size ≤ x.1) : hb H0 H1 (n + n') (P.set k (a, S') ++ P2) := by
  obtain ⟨a1, a2, a3, a4⟩ := h
  obtain ⟨b1, b2, b3, b4⟩ := h'
  have hkl : k < P.length := (List.getElem?_eq_some_iff.mp hk).1
  have hlt : ∀ x ∈ P, x.1 < H.size := fun x hx => by
    obtain ⟨c, hc, -⟩ := a3 x hx
    exact (Array.getElem?_eq_some_iff.mp hc).1
  have hset : ∀ i x, (P.set k (a, S'))[i]? = some x → (i = k ∧ x = (a, S')) ∨ (i ≠ k ∧ P[i]? = some x) := fun i x hi => by
    rw [List.getElem?_set] at hi
    by_cases e : k = i
    · subst e
      rw [if_pos rfl, if_pos hkl] at hi
      exact Or.inl ⟨rfl, (Option.some.inj hi).symm⟩
    · rw [if_neg e] at hi
      exact Or.inr ⟨fun e' => e e'.symm, hi⟩
  have hkeep : ∀ q, q < H.size → q ≠ a → H1[q]? = H[q]? := fun q hq hqa => b2 q hq fun x hx => by
    rcases List.mem_cons.mp hx with rfl | h9
    · exact fun e => hqa e.symm
    · have := hn x h9; omega
  have haH : a < H.size := hlt _ (List.mem_of_getElem? hk)
  have hsl : ∀ x ∈ P.set k (a, S'), x.1 < H.size := fun x hx => by
    obtain ⟨i, hi⟩ := List.getElem?_of_mem hx
    rcases hset i x hi with ⟨-, rfl⟩ | ⟨e, hi⟩
    · exact haH
    · exact hlt x (List.mem_of_getElem? hi)
  refine ⟨by rw [b1, a1]; omega, fun q hq hn9 => ?_, fun x hx => ?_, fun i j x y hi hj he => ?_⟩
  · have hqa : q ≠ a := fun e => hn9 (a, S') (List.mem_append_left _ (List.mem_of_getElem? (i := k) (by rw [List.getElem?_set, if_pos rfl, if_pos hkl]))) e.symm
    rw [hkeep q (by omega) hqa]
    refine a2 q hq fun x hx => ?_
    obtain ⟨i, hi⟩ := List.getElem?_of_mem hx
    by_cases e : k = i
    · subst e
      rw [hk] at hi
      cases hi
      exact fun e => hqa e.symm
    · exact hn9 x (List.mem_append_left _ (List.mem_of_getElem? (i := i) (by rw [List.getElem?_set, if_neg e]; exact hi)))
  · rcases List.mem_append.mp hx with h9 | h9
    · obtain ⟨i, hi⟩ := List.getElem?_of_mem h9
      rcases hset i x hi with ⟨-, rfl⟩ | ⟨e, hi⟩
      · exact b3 _ List.mem_cons_self
      · rw [hkeep _ (hlt x (List.mem_of_getElem? hi)) (fun e9 => e (a4 i k x (a, S) hi hk e9))]
        exact a3 x (List.mem_of_getElem? hi)
    · exact b3 x (List.mem_cons_of_mem _ h9)
  · have sp : ∀ i x, (P.set k (a, S') ++ P2)[i]? = some x → (i < P.length ∧ (P.set k (a, S'))[i]? = some x) ∨ (P.length ≤ i ∧ P2[i - P.length]? = some x) := fun i x hi => by
      by_cases hl : i < P.length
      · rw [List.getElem?_append_left (by simpa using hl)] at hi; exact Or.inl ⟨hl, hi⟩
      · rw [List.getElem?_append_right (by simpa using hl)] at hi
        exact Or.inr ⟨by omega, by simpa using hi⟩
    rcases sp i x hi with ⟨l1, hi⟩ | ⟨l1, hi⟩ <;> rcases sp j y hj with ⟨l2, hj⟩ | ⟨l2, hj⟩
    · rcases hset i x hi with ⟨e1, rfl⟩ | ⟨e1, hi⟩ <;> rcases hset j y hj with ⟨e2, rfl⟩ | ⟨e2, hj⟩
      · omega
      · exact absurd (a4 j k y (a, S) hj hk he.symm) e2
      · exact absurd (a4 i k x (a, S) hi hk he) e1
      · exact a4 i j x y hi hj he
    · have := hsl x (List.mem_of_getElem? hi); have := hn y (List.mem_of_getElem? hj); omega
    · have := hsl y (List.mem_of_getElem? hj); have := hn x (List.mem_of_getElem? hi); omega
    · have := b4 (i - P.length + 1) (j - P.length + 1) x y (by simpa using hi) (by simpa using hj) he
      omega
def n_K (D : va_G) (aI aB : ClassId) (s : State) : Prop := va_K D vwCl [(aI, .int), (aB, .byte)] s
def j_FF (own : String) (ci k : Nat) (ty : FieldType) : Prop := ∃ (C : String) (T : u_T) (N : Nat) (ty0 : Nat → FieldType), vwCl[ci]? = some (C, T, N) ∧ (∀ k, k < N → parseFieldDescriptor (T k).2.2.1 = some (ty0 k)) ∧ (∀ a, a < N → ∀ b, b < N → a ≠ b → (T a).2.1 ≠ (T b).2.1) ∧ (T k).2.2.2 = true ∧ (T k).1 = own ∧ parseFieldDescriptor (T k).2.2.1 = some ty
section NR
variable {p : Program} {l : Launch} {e : Env} {R : Room} {s : State} {m : MethodId} {args : Array Value} {below : List Frame} {meth : Method} {c : Code} {H H0 : Heap} {locs : List Loc} {cells slots : Nat} {Q : State → Prop}
variable {y : MethodName} {cc : ByteArray} {nL : Nat} {ret : Option FieldType} {pc n z : Nat} {la : Array Slot} {rest : List Value} {D : va_G} {aI aB : ClassId} {P : List (Nat × (Cell → Prop))}
theorem N_newa (cx : j_Cx y cc nL ret p s m args meth c) (hK : n_K D aI aB s) (harr : Cond.arrayClass .int ∈ j_ws) {v : Int32} {k q : Nat} (hn : ¬ v < 0) (hk : v.toNatClampNeg = k) (hbytes : k * componentBytes (newarray.typeOf .int) ≤ 536870912) (d : decode cc pc = .ok (.newarray .int, 2)) (hc : cells + 1 ≤ R.cells) (hs : slots + k ≤ R.slots) (hB : hb H0 H n P) (hq : pc + 2 = q)
    (kk : ∀ H1, hb H0 H1 (n + 1) (P ++ [(H0.size + n, n_ar aI k (fun _ => 0))]) → W p l e R s m args below meth c H1 locs (cells + 1) (slots + k) Q (F0 m q la (.ref (H0.size + n) :: rest))) : W p l e R s m args below meth c H locs cells slots Q (F0 m pc la (.int v :: rest)) := by
  subst hq
  refine va_newaK (atype := .int) cx.1 cx.2.1 (cx.2.2.2.2.1 _ harr) rfl d rfl hn hk hbytes hc hs hB.1 (fun H' cA e1 e2 e3 e4 e5 => ?_)
  have hcA : cA = aI := by
    have h9 := (hK.2 0 _ rfl).2
    have h8 : s.vm.findClass ("[" ++ FieldType.int.toString) = some aI := h9
    exact Option.some.inj (e5.symm.trans h8)
  subst hcA
  refine kk H' (hB.push (cell := arrV cA k (fun _ => .int 0)) (by rw [hB.1]; exact e1) (by rw [hB.1]; exact e2) (by rw [hB.1]; exact e3) rfl)
theorem N_newb (cx : j_Cx y cc nL ret p s m args meth c) (hK : n_K D aI aB s) (harr : Cond.arrayClass .byte ∈ j_ws) {v : Int32} {k q : Nat} (hn : ¬ v < 0) (hk : v.toNatClampNeg = k) (hbytes : k * componentBytes (newarray.typeOf .byte) ≤ 536870912) (d : decode cc pc = .ok (.newarray .byte, 2)) (hc : cells + 1 ≤ R.cells) (hs : slots + k ≤ R.slots) (hB : hb H0 H n P) (hq : pc + 2 = q)
    (kk : ∀ H1, hb H0 H1 (n + 1) (P ++ [(H0.size + n, n_ar aB k (fun _ => 0))]) → W p l e R s m args below meth c H1 locs (cells + 1) (slots + k) Q (F0 m q la (.ref (H0.size + n) :: rest))) : W p l e R s m args below meth c H locs cells slots Q (F0 m pc la (.int v :: rest)) := by
  subst hq
  refine va_newaK (atype := .byte) cx.1 cx.2.1 (cx.2.2.2.2.1 _ harr) rfl d rfl hn hk hbytes hc hs hB.1 (fun H' cA e1 e2 e3 e4 e5 => ?_)
  have hcA : cA = aB := by
    have h9 := (hK.2 1 _ rfl).2
    have h8 : s.vm.findClass ("[" ++ FieldType.byte.toString) = some aB := h9
    exact Option.some.inj (e5.symm.trans h8)
  subst hcA
  refine kk H' (hB.push (cell := arrV cA k (fun _ => .int 0)) (by rw [hB.1]; exact e1) (by rw [hB.1]; exact e2) (by rw [hB.1]; exact e3) rfl)
/-- new: a raw object -/
theorem N_new (cx : j_Cx y cc nL ret p s m args meth c) (hK : n_K D aI aB s) {C : String} {T : u_T} {N ci ix q : Nat} {V : Nat → Value} (hin : ∀ w ∈ u_ws C T N, w ∈ j_ws) (ty : Nat → FieldType) (hty : ∀ k, k < N → parseFieldDescriptor (T k).2.2.1 = some (ty k)) (hcl : Cond.classLink y.cls ix C ∈ j_ws) (hinst : Cond.instantiable C N ∈ j_ws) (hini : Cond.initialized C ∈ j_ws) (hci : vwCl[ci]? = some (C, T, N)) (hV : ∀ j, j < N → defaultValue (ty j) = V j) (d : decode cc pc = .ok (.new ix, 3)) (hc : cells + 1 ≤ R.cells) (hs : slots + N ≤ R.slots) (hB : hb H0 H n P) (hq : pc + 3 = q)
    (kk : ∀ H1, hb H0 H1 (n + 1) (P ++ [(H0.size + n, n_at D ci N V)]) → W p l e R s m args below meth c H1 locs (cells + 1) (slots + N) Q (F0 m q la (.ref (H0.size + n) :: rest))) : W p l e R s m args below meth c H locs cells slots Q (F0 m pc la rest) := by
  subst hq
  have hKn := hK.1 ci _ hci
  have hts := cx.2.2.2.2.1
  refine W.newcK cx.1 cx.2.1 cx.2.2.2.2.2.1 (hts _ hcl) (hts _ hinst) (hts _ hini) rfl d hc hs hKn.2.1 hB.1 fun H1 kC hkC e1 z1 o1 => ?_
  obtain ⟨cell, q1, q2, q3, q4⟩ := (u_born ty hts hin hKn hkC e1 hty).to hV
  exact kk H1 (hB.push (cell := cell) (by rw [hB.1]; exact q1) (by rw [hB.1]; exact z1) (by rw [hB.1]; exact o1) ⟨q2, q3, q4⟩)
/-- a field of an object of the list is written; final: in the object's own constructor -/
theorem N_put (cx : j_Cx y cc nL ret p s m args meth c) (hK : n_K D aI aB s) {ix ci N a q : Nat} {V V' : Nat → Value} {v : Value} {ty : FieldType} (k kp : Nat) (d : decode cc pc = .ok (.putfield ix, 3)) (hf : j_F y.cls ix ci k) (hp : j_FP ci k ty ∨ (j_FF y.cls ci k ty ∧ meth.name = "<init>")) (hn : narrow ty v = v) (hfit : fits ty v = true) (hN : (vwCl[ci]?).map (fun r => r.2.2) = some N) (hB : hb H0 H n P) (hk : P[kp]? = some (a, n_at D ci N V)) (hz : z ≤ a) (hlo : ∀ q ∈ locs, z ≤ q.base) (hV : updV V k v = V') (hq : pc + 3 = q)
    (kk : ∀ H1 locs1, hb H0 H1 n (P.set kp (a, n_at D ci N V')) → (∀ q ∈ locs1, z ≤ q.base) → W p l e R s m args below meth c H1 locs1 cells slots Q (F0 m q la rest)) : W p l e R s m args below meth c H locs cells slots Q (F0 m pc la (v :: .ref a :: rest)) := by
  subst hq; subst hV
  obtain ⟨C, T, N0, hc, hkN, hin, hlink⟩ := hf
  have hN0 : N0 = N := by rw [hc] at hN; simpa using hN
  subst hN0
  have hts := cx.2.2.2.2.1
  obtain ⟨cell, q1, q2, q3, q4⟩ := hB.2.2.1 _ (List.mem_of_getElem? hk)
  obtain ⟨hSl, hfc, kC, hkC, hkind⟩ := hK.1 ci _ hc
  obtain ⟨cf, kf, fi, f, hi, hsl⟩ := hSl k hkN
  have hst9 := (u_facts hfc hkC (u_lays hts hin hkN) hi).1
  have hlay := hts _ (hin _ (u_in_lay hkN))
  unfold u_lay at hlay
  have hlocs : ∀ q ∈ locs ++ [⟨a, f.slot⟩], z ≤ q.base := fun q hq => by
    rcases List.mem_append.mp hq with h9 | h9
    · exact hlo q h9
    · rw [List.mem_singleton.mp h9]; exact hz
  rcases hp with ⟨C', T', N', ty0, hc', hty, hnm, hfin, hd⟩ | ⟨⟨C', T', N', ty0, hc', hty, hnm, hfin, hdecl, hd⟩, hname⟩
  · have e9 : (C', T', N') = (C, T, N0) := Option.some.inj (hc'.symm.trans hc)
    cases e9
    have hap := va_apart (own := y.cls) hts hin ty0 hty hnm hK hc
    rw [if_neg (by rw [hfin]; decide)] at hlay
    have h6 := u_store hfc hkC hkind hlay hi hd hn hfit
    refine W.putK cx.1 cx.2.1 (f := f) ⟨cx.2.2.2.2.2.1, hts _ hlink, ⟨_, _, _, hi⟩, hst9⟩ (by rw [q2]; exact h6) q1 q3 (by rw [hsl]; exact k2_hasslot (q4 k hkN)) rfl rfl d fun H1 e1 e2 e3 => ?_
    refine kk H1 _ (hB.set hk e1 e2 e3 ⟨q2, q3, ?_⟩) hlocs
    rw [hsl]
    exact t_set q4 hap hkN v
  · have e9 : (C', T', N') = (C, T, N0) := Option.some.inj (hc'.symm.trans hc)
    cases e9
    have hap := va_apart (own := y.cls) hts hin ty0 hty hnm hK hc
    rw [if_pos hfin] at hlay
    have hcf : m.cls = cf := by
      obtain ⟨_, _, c', _, _, _, -, -, hf', -, -, -, hown2, -⟩ := Cond.laysFinal_spec hlay
      have e1 : c' = cf := by have := hi.symm.trans hf'; simp at this; exact this.1.symm
      rw [hdecl] at hown2
      rw [← e1]; exact Option.some.inj (cx.2.2.2.2.2.1.symm.trans hown2)
    have h6 := u_fits hfc hkC hkind (Or.inr hlay) hi hd hn hfit
    refine W.putFinK cx.1 cx.2.1 cx.2.2.2.2.2.1 (hts _ hlink) hi hst9 hcf hname (by rw [q2]; exact h6) q1 q3 (by rw [hsl]; exact k2_hasslot (q4 k hkN)) rfl rfl d fun H1 e1 e2 e3 => ?_
    refine kk H1 _ (hB.set hk e1 e2 e3 ⟨q2, q3, ?_⟩) hlocs
    rw [hsl]
    exact t_set q4 hap hkN v
theorem N_get (cx : j_Cx y cc nL ret p s m args meth c) (hK : n_K D aI aB s) {ix ci N a q : Nat} {V : Nat → Value} {v : Value} (k kp : Nat) (d : decode cc pc = .ok (.getfield ix, 3)) (hf : j_F y.cls ix ci k) (hN : (vwCl[ci]?).map (fun r => r.2.2) = some N) (hB : hb H0 H n P) (hk : P[kp]? = some (a, n_at D ci N V)) (hV : V k = v) (hq : pc + 3 = q)
    (kk : W p l e R s m args below meth c H locs cells slots Q (F0 m q la (v :: rest))) : W p l e R s m args below meth c H locs cells slots Q (F0 m pc la (.ref a :: rest)) := by
  subst hq; subst hV
  obtain ⟨C, T, N0, hc, hkN, hin, hlink⟩ := hf
  have hN0 : N0 = N := by rw [hc] at hN; simpa using hN
  subst hN0
  have hts := cx.2.2.2.2.1
  obtain ⟨cell, q1, q2, q3, q4⟩ := hB.2.2.1 _ (List.mem_of_getElem? hk)
  obtain ⟨hSl, hfc, kC, hkC, hkind⟩ := hK.1 ci _ hc
  obtain ⟨cf, kf, fi, f, hi, hsl⟩ := hSl k hkN
  refine W.getf cx.1 cx.2.1 cx.2.2.2.2.2.1 (hts _ hlink) hi (u_facts hfc hkC (u_lays hts hin hkN) hi).1 q1 (by rw [q3]; exact fun h => by cases h) (v := V k) ?_ rfl rfl d kk
  rw [hsl, q4 k hkN]
theorem N_iast (cx : j_Cx y cc nL ret p s m args meth c) (hK : n_K D aI aB s) {a q N : Nat} {f f' : Nat → Int32} {i v : Int32} (kp : Nat) (d : decode cc pc = .ok (.iastore, 1)) (hB : hb H0 H n P) (hk : P[kp]? = some (a, n_ar aI N f)) (hin : vp_in i N) (hz : z ≤ a) (hlo : ∀ q ∈ locs, z ≤ q.base) (hf : upd f i.toNatClampNeg v = f') (hq : pc + 1 = q)
    (kk : ∀ H1 locs1, hb H0 H1 n (P.set kp (a, n_ar aI N f')) → (∀ q ∈ locs1, z ≤ q.base) → W p l e R s m args below meth c H1 locs1 cells slots Q (F0 m q la rest)) : W p l e R s m args below meth c H locs cells slots Q (F0 m pc la (.int v :: .int i :: .ref a :: rest)) := by
  subst hq; subst hf
  obtain ⟨cell, q1, q2⟩ := hB.2.2.1 _ (List.mem_of_getElem? hk)
  have q2 : cell = arrV aI N (fun j => .int (f j)) := q2
  subst q2
  refine W.iast cx.1 cx.2.1 q1 ((hK.2 0 _ rfl).1 N (fun j => .int (f j))) (fun q => by cases q) (by rw [arrV_size]; exact hin) rfl rfl d fun H1 e1 z1 oq => ?_
  refine kk H1 _ (hB.set hk e1 z1 oq ?_) (fun q hq => ?_)
  · show _ = arrV aI N _
    rw [arrV_store]
    congr 1
    funext j
    by_cases hj : j = i.toNatClampNeg
    · subst hj; simp [updV, upd]
    · simp [updV, upd, hj]
  · rcases List.mem_append.mp hq with h9 | h9
    · exact hlo q h9
    · rw [List.mem_singleton.mp h9]; exact hz
end NR
/-- a maker's start and end -/
def n_Pc (D : va_G) (aI aB : ClassId) (z h0 ci N : Nat) (V0 : Nat → Value) (av : List Value) : Array Value → State → Prop := va_Pc av (fun U => n_K D aI aB U ∧ (∃ c, U.heap[h0]? = some c ∧ n_at D ci N V0 c) ∧ z ≤ h0 ∧ ∀ q ∈ j_nest, va_Nw (.methodLinkNest q.1 q.2.1 q.2.2.1 q.2.2.2) U)
def n_Q (n : Nat) (P : Nat → List (Nat × (Cell → Prop))) : Array Value → State → Outcome → State → Prop := fun _ st o t => o = .returned none ∧ hb st.heap t.heap n (P st.heap.size)
theorem n_Pc_blind {D : va_G} {aI aB : ClassId} {z h0 ci N : Nat} {V0 : Nat → Value} {av : List Value} : FrameBlind (n_Pc D aI aB z h0 ci N V0 av) := fun a U g mk q => by
  obtain ⟨q0, q1, q2, q3, q4⟩ := q
  exact ⟨q0, va_K.moved (u := U) (U := U.calling g mk a) (Vm.Alike.refl U.vm) q1, q2, q3, fun q hq => (q4 q hq).same rfl rfl⟩
theorem hb.one {H : Heap} {h0 : Nat} {S : Cell → Prop} (h : ∃ c, H[h0]? = some c ∧ S c) : hb H H 0 [(h0, S)] :=
  ⟨rfl, fun _ _ _ => rfl, fun x hx => by rw [List.mem_singleton.mp hx]; exact h, fun i j x y hi hj _ => by
    have h1 := (List.getElem?_eq_some_iff.mp hi).1
    have h2 := (List.getElem?_eq_some_iff.mp hj).1
    simp at h1 h2; omega⟩
theorem n_setV {fs : List Value} {k : Nat} (h : k < fs.length) (v : Value) : updV (vp_V fs) k v = vp_V (fs.set k v) := funext fun j => vp_updV_set h v j
section NC
variable {p : Program} {l : Launch} {e : Env} {R : Room} {s : State} {m : MethodId} {args : Array Value} {below : List Frame} {meth : Method} {c : Code} {H H0 : Heap} {locs : List Loc} {cells slots : Nat} {Q : State → Prop}
variable {y : MethodName} {cc : ByteArray} {nL : Nat} {ret : Option FieldType} {pc n z : Nat} {la : Array Slot} {rest : List Value} {D : va_G} {aI aB : ClassId} {P : List (Nat × (Cell → Prop))}
/-- a constructor is called on a raw object of the list -/
theorem N_ctor (cx : j_Cx y cc nL ret p s m args meth c) (hK : n_K D aI aB s) (hN9 : ∀ q ∈ j_nest, va_Nw (.methodLinkNest q.1 q.2.1 q.2.2.1 q.2.2.2) s) {y' : MethodName} {cc' : ByteArray} {nL' na fr' lo' mc' ms' n' a ci N ix q : Nat} {V0 : Nat → Value} {As : List Value} {P' : Nat → List (Nat × (Cell → Prop))} {S' : Cell → Prop} {P2 : List (Nat × (Cell → Prop))} (kp : Nat)
    (hM : Met l y' (Cond.code y' cc' nL' none :: j_ws) { frames := fr', cells := mc', slots := ms', locals := lo' } (n_Pc D aI aB z a ci N V0 (.ref a :: As)) (n_Q n' P') mc' ms' (fun q => z ≤ q)) (hB0 : j_CB y' cc' nL' none na) (hnm : y'.name = "<init>") (hins : Cond.instanceMethod y' ∈ j_ws) (hlk : Cond.methodLink y.cls ix y' ∈ j_ws ∨ ∃ host, va_Nw (.methodLinkNest y.cls ix y' host) s) (d : decode cc pc = .ok (.invokespecial ix, 3)) (hn : As.length = na) (hla : la.size = nL) (hrest : (rest.map fun v => v.category).sum ≤ 8) (hfr : fr' + 1 ≤ R.frames ∧ 8 + (nL' + 11) + lo' ≤ R.locals) (hroom : cells + mc' ≤ R.cells ∧ slots + ms' ≤ R.slots) (hB : hb H0 H n P) (hk : P[kp]? = some (a, n_at D ci N V0)) (hz : z ≤ a) (hP' : P' (H0.size + n) = (a, S') :: P2) (hnew : ∀ x ∈ P2, H0.size + n ≤ x.1) (hlo : ∀ q ∈ locs, z ≤ q.base) (hq : pc + 3 = q)
    (kk : ∀ H1 locs1, hb H0 H1 (n + n') (P.set kp (a, S') ++ P2) → (∀ q ∈ locs1, z ≤ q.base) → W p l e R s m args below meth c H1 locs1 (cells + mc') (slots + ms') Q (F0 m q la rest)) : W p l e R s m args below meth c H locs cells slots Q (F0 m pc la (As.reverse ++ .ref a :: rest)) := by
  subst hq
  have hFix : CallFix p m c cc nL s args j_ws y.cls := ⟨cx.1, cx.2.1, cx.2.2.2.1, cx.2.2.2.2.2.1, cx.2.2.2.2.1⟩
  have hPre : PreS s H (n_Pc D aI aB z a ci N V0 (.ref a :: As)) (.ref a :: As) := ⟨n_Pc_blind, fun U hU hW => ⟨rfl, va_K.moved hW.alike hK, by rw [hU]; exact hB.2.2.1 _ (List.mem_of_getElem? hk), hz, fun q hq => (hN9 q hq).warmM hW⟩⟩
  have hW9 : 2 * (F0 m pc la (As.reverse ++ .ref a :: rest)).monitorRoom + (rest.map fun v => v.category).sum ≤ 8 := by
    show 2 * 0 + _ ≤ 8
    omega
  have hrun : va_Run p l e R s m args below meth c H locs cells slots mc' ms' (F0 m pc la (As.reverse ++ .ref a :: rest)) rest (n_Q n' P' (Value.ref a :: As).toArray) (fun q => z ≤ q) := by
    rcases hlk with hlk | ⟨host, hlk⟩
    · exact va_runI hFix hM ⟨callB_of na cx.2.2.2.2.1 (j_ws_good hB0.2.1) rfl rfl rfl (cx.2.2.2.2.1 _ hB0.2.2.1) (cx.2.2.2.2.1 _ hlk) hB0.2.2.2 hfr, hnm, cx.2.2.2.2.1 _ hins⟩ hPre rfl hn hla rfl hW9 d hroom
    · exact va_runIN hFix hM ⟨va_cnB na cx.2.2.2.2.1 (j_ws_good hB0.2.1) rfl rfl rfl hlk (cx.2.2.2.2.1 _ hB0.2.2.1) hB0.2.2.2 hfr, hnm, cx.2.2.2.2.1 _ hins⟩ hPre rfl hn hla rfl hW9 d hroom
  intro T hT X
  obtain ⟨v, st₀, t, T', L, h0, X', hL, e1, e2, ⟨ho, hb9⟩, st⟩ := hrun T hT X
  cases ho
  rw [h0] at hb9
  have hsz : Array.size H = H0.size + n := hB.1
  rw [hsz, hP'] at hb9
  obtain ⟨t2, a1, b1⟩ := kk t.heap (locs ++ L) (hB.join hk hb9 (by rw [hsz]; exact hnew)) (fun q hq => by
    rcases List.mem_append.mp hq with h9 | h9
    · exact hlo q h9
    · exact hL q h9) T' e1 X'
  exact ⟨t2, st t2 a1, b1⟩
end NC
