/-! calls -/
def j_lz : Nat → List j_V → List (Nat × j_V)
  | _, [] => []
  | k, x :: l => (k, x) :: j_lz (k + 1) l
theorem j_lz_args (io : Nat → Nat) : ∀ (as : List j_V) (k : Nat), lv_args k (as.map (j_val io)) = j_lm io (j_lz k as)
  | [], _ => rfl
  | x :: l, k => by
    show (k, j_val io x) :: lv_args (if (j_val io x).category = 2 then k + 2 else k + 1) (l.map (j_val io)) = (k, j_val io x) :: j_lm io (j_lz (k + 1) l)
    rw [if_neg (by rw [j_val_cat]; decide), j_lz_args io l (k + 1)]
theorem j_lz_live {Lv : j_L} : ∀ (as : List j_V) (k : Nat), (∀ x ∈ as, j_live Lv x) → ∀ q ∈ j_lz k as, j_live Lv q.2
  | [], _, _, q, hq => by cases hq
  | x :: l, k, h, q, hq => by
    rcases List.mem_cons.mp hq with rfl | h1
    · exact h x List.mem_cons_self
    · exact j_lz_live l (k + 1) (j_live_t h) q h1
theorem j_lg_len (io : Nat → Nat) : ∀ (as : List j_V), (lg_sl (as.map (j_val io))).length = as.length
  | [] => rfl
  | x :: l => by
    have h := j_lg_len io l
    have e : lg_sl ((x :: l).map (j_val io)) = [Slot.val (j_val io x)] ++ lg_sl (l.map (j_val io)) := by
      simp only [lg_sl, List.map_cons, List.flatMap_cons]
      rw [if_neg (by rw [j_val_cat]; decide)]
    rw [e, List.length_append, h, List.length_cons]
    simp; omega
/-- what the tables say of a method that is called: its code, its class, how many arguments -/
def j_CB (y : MethodName) (cc : ByteArray) (nL : Nat) (ret : Option FieldType) (n : Nat) : Prop := plainName y.cls = true ∧ Cond.code y cc nL ret ∈ j_ws ∧ Cond.initialized y.cls ∈ j_ws ∧ (y.cls ≠ "java/lang/invoke/MethodHandle" ∧ y.cls ≠ "java/lang/invoke/VarHandle" ∧ (parseMethodDescriptor y.desc).map (fun d => d.parameters.length) = some n)
def j_CV (own : String) (ix : Nat) (y : MethodName) : Prop := (Cond.methodLink own ix y ∈ j_ws ∨ ∃ host, (own, ix, y, host) ∈ j_nest) ∧ Cond.instanceMethod y ∈ j_ws ∧ Cond.selects y.cls y y ∈ j_ws
def j_CS (own : String) (ix : Nat) (y : MethodName) : Prop := (Cond.methodLink own ix y ∈ j_ws ∨ ∃ host, (own, ix, y, host) ∈ j_nest) ∧ Cond.static y ∈ j_ws
def j_RC (g : Nat × Nat × Nat) (C : String) : Prop := (∃ ci T N, g.1 = 10 + ci ∧ vwCl[ci]? = some (C, T, N)) ∨ (g.1 = 4 ∧ C = "java/lang/String" ∧ ∃ i, i < 12 ∧ g.2.2 = 321 + i)
theorem j_ws_good {y : MethodName} {cc : ByteArray} {nL : Nat} {ret : Option FieldType} (h : Cond.code y cc nL ret ∈ j_ws) : GoodIn j_ws (Cond.code y cc nL ret :: j_ws) := fun w hw => by
  rcases List.mem_cons.mp hw with rfl | h1
  · exact ⟨h, good_of_word (List.mem_filter.mp h).2⟩
  · exact ⟨h1, good_of_word (List.mem_filter.mp h1).2⟩
def j_Pc (D : va_G) (aI aB : ClassId) (H0 : Heap) (io : Nat → Nat) (Lv : j_L) (K0 M : j_M) (as : List j_V) : Array Value → State → Prop := va_Pc (as.map (j_val io)) (fun U => j_S D aI aB H0 io Lv K0 U ∧ j_H D aI aB H0 io Lv K0 M U.heap)
theorem J_met {ρ : Type} {y : MethodName} {cc : ByteArray} {nL : Nat} {ret : Option FieldType} {fr lo n : Nat} {em : ρ → Option j_V × j_M} {M : j_M} {X : Option ρ} {r : ρ} (hB : j_CB y cc nL ret n) (as : List j_V) (hJ : J y cc nL ret fr lo em 0 (j_lz 0 as) [] M X) (hX : X = some r) (l : Launch) (D : va_G) (aI aB : ClassId) (H0 : Heap) (io : Nat → Nat) (Lv : j_L) (K0 : j_M) (hlive : ∀ x ∈ as, j_live Lv x) (hnl : as.length ≤ nL) :
    Met l y (Cond.code y cc nL ret :: j_ws) { frames := fr, cells := j_cc (em r).2 - j_cc M, slots := j_cs (em r).2 - j_cs M, locals := lo } (j_Pc D aI aB H0 io Lv K0 M as) (j_Q D aI aB H0 io Lv K0 (em r)) (j_cc (em r).2 - j_cc M) (j_cs (em r).2 - j_cs M) (fun q => H0.size ≤ q) := by
  refine Met.ofW (cc := cc) (maxL := nL) (ret := ret) hB.1 rfl ?_
  intro p e s m args below meth c s₁ B hml hv
  obtain ⟨rfl, hS, hH⟩ := hv
  have hts := atoms_spec (ws := Cond.code y cc nL ret :: j_ws) B.pre
  have hown : s.vm.findClass y.cls = some m.cls := findClass_of_methodNamed B.named
  have hl := lv_entry (as.map (j_val io)) (n := nL) (by rw [j_lg_len]; exact hnl)
  rw [lg_entry_eq]
  generalize (lg_sl (as.map (j_val io)) ++ List.replicate (nL - (lg_sl (as.map (j_val io))).length) Slot.unset).toArray = la at hl ⊢
  rw [j_lz_args] at hl
  have e1 := (hJ r hX).1
  exact (hJ r hX).2 p l e s m _ below meth c D aI aB H0 io Lv K0 _ _ s.heap [] 0 0 la ⟨B.exec, B.bytes, B.returns, hml, fun w hw => hts w (List.mem_cons_of_mem _ hw), hown, B.notSynchronized⟩ hS hH hl (j_lz_live as 0 hlive) (fun x hx => by cases hx) (fun q hq => by cases hq) (by have := e1.1; omega) (by have := e1.2; omega)
theorem j_Pc_blind {D : va_G} {aI aB : ClassId} {H0 : Heap} {io : Nat → Nat} {Lv : j_L} {K0 M : j_M} {as : List j_V} : FrameBlind (j_Pc D aI aB H0 io Lv K0 M as) := fun a U g mk q => by
  obtain ⟨q0, q1, q2⟩ := q
  exact ⟨q0, q1.same rfl, q2⟩
section JC
variable {p : Program} {l : Launch} {e : Env} {R : Room} {s : State} {m : MethodId} {args : Array Value} {below : List Frame} {meth : Method} {c : Code} {H : Heap} {locs : List Loc} {cells slots : Nat} {Q : State → Prop}
theorem j_runW {mc ms pc : Nat} {la : Array Slot} {sv rest : List Value} {D : va_G} {aI aB : ClassId} {H0 : Heap} {io : Nat → Nat} {Lv : j_L} {K0 : j_M} {v : Option j_V × j_M} {free : Addr → Prop} {a : Array Value} (hr : va_Run p l e R s m args below meth c H locs cells slots mc ms (F0 m pc la sv) rest (j_Q D aI aB H0 io Lv K0 v a) free)
    (kk : ∀ io' Lv' H1 L, j_ext io Lv io' Lv' → j_H D aI aB H0 io' Lv' K0 v.2 H1 → (∀ x, v.1 = some x → j_live Lv' x) → (∀ q ∈ L, free q.base) → W p l e R s m args below meth c H1 (locs ++ L) (cells + mc) (slots + ms) Q (F0 m (pc + 3) la ((v.1.map (j_val io')).toList ++ rest))) : W p l e R s m args below meth c H locs cells slots Q (F0 m pc la sv) := by
  intro T hT X
  obtain ⟨v', st₀, t, T', L, h0, X', hL, e1, e2, ⟨io', Lv', hx, hH', hlv, ho⟩, st⟩ := hr T hT X
  cases ho
  obtain ⟨t2, a1, b1⟩ := kk io' Lv' t.heap L hx hH' hlv hL T' e1 X'
  exact ⟨t2, st t2 a1, b1⟩
end JC
theorem j_recv {D : va_G} {aI aB : ClassId} {H0 H : Heap} {io : Nat → Nat} {Lv : j_L} {K0 M : j_M} {s : State} {g : Nat × Nat × Nat} {C : String} (hS : j_S D aI aB H0 io Lv K0 s) (hH : j_H D aI aB H0 io Lv K0 M H) (hg : j_RC g C) (hl : Lv g.1 g.2.1 g.2.2) : ∃ cellB : Cell, H[io g.2.2]? = some cellB ∧ cellB.vm.isStatics = false ∧ s.vm.findClass C = some cellB.cls := by
  rcases hg with ⟨ci, T, N, h1, h2⟩ | ⟨h1, rfl, i, hi, h2⟩
  · obtain ⟨r, hr1, ⟨cell, q1, q2, q3, q4⟩, -, -⟩ := (hH.2.2.2.2.1 _ _ _ hl).2.2.2 ci h1
    have hr : r = (C, T, N) := Option.some.inj (hr1.symm.trans h2)
    subst hr
    obtain ⟨hSl, hfc, -⟩ := hS.1.1 ci _ h2
    exact ⟨cell, q1, by rw [q3]; rfl, by rw [q2]; exact hfc⟩
  · obtain ⟨cell, q1, q2, q3, q4⟩ := (hS.2.2.2.2.2.2.2.1.1 i hi).1
    rw [h2]
    refine ⟨cell, ?_, q2, q3⟩
    rw [hH.2.1 _ (by have : ¬ H0.size ≤ io (321 + i) := q4; omega)]
    exact q1
section JR
variable {ρ ρ' : Type} {y : MethodName} {cc : ByteArray} {nL : Nat} {ret : Option FieldType} {fr lo : Nat} {em : ρ → Option j_V × j_M} {pc : Nat} {ll : List (Nat × j_V)} {st : List j_V} {M : j_M} {y' : MethodName} {cc' : ByteArray} {nL' : Nat} {ret' : Option FieldType} {fr' lo' n ix : Nat} {em' : ρ' → Option j_V × j_M}
theorem j_catsum (io : Nat → Nat) : ∀ (st : List j_V), (((st.map (j_val io)).map fun v => v.category).sum) = st.length
  | [] => rfl
  | x :: l => by
    have := j_catsum io l
    simp only [List.map_cons, List.sum_cons, j_val_cat, this, List.length_cons]
    omega
/-- a call, whatever way the callee is found: 'run' gives it -/
theorem j_call {F : Option ρ'} {X : ρ' → Option ρ} {sv : List j_V} (as : List j_V) (hB : j_CB y' cc' nL' ret' n) (hJ : J y' cc' nL' ret' fr' lo' em' 0 (j_lz 0 as) [] M F) (hnl : as.length ≤ nL')
    (hrun : ∀ (p : Program) (l : Launch) (e : Env) (s : State) (m : MethodId) (args : Array Value) (below : List Frame) (meth : Method) (c : Code) (D : va_G) (aI aB : ClassId) (H0 : Heap) (io : Nat → Nat) (Lv : j_L) (K0 : j_M) (mc ms : Nat) (H : Heap) (locs : List Loc) (cells slots : Nat) (la : Array Slot) (mc' ms' : Nat) (Qc : Array Value → State → Outcome → State → Prop), j_Cx y cc nL ret p s m args meth c → j_S D aI aB H0 io Lv K0 s → j_H D aI aB H0 io Lv K0 M H → la.size = nL → (∀ x ∈ as, j_live Lv x) → cells + mc' ≤ mc → slots + ms' ≤ ms →
      Met l y' (Cond.code y' cc' nL' ret' :: j_ws) { frames := fr', cells := mc', slots := ms', locals := lo' } (j_Pc D aI aB H0 io Lv K0 M as) Qc mc' ms' (fun q => H0.size ≤ q) →
      va_Run p l e { frames := fr, cells := mc, slots := ms, locals := lo } s m args below meth c H locs cells slots mc' ms' (F0 m pc la (sv.map (j_val io))) (st.map (j_val io)) (Qc (as.map (j_val io)).toArray) (fun q => H0.size ≤ q))
    (hsv : ∀ x ∈ as, x ∈ sv) (hsv2 : ∀ x ∈ st, x ∈ sv) (h : ∀ r', J y cc nL ret fr lo em (pc + 3) ll ((em' r').1.toList ++ st) (em' r').2 (X r')) : J y cc nL ret fr lo em pc ll sv M (F.bind X) := by
  intro r hr
  obtain ⟨r', hF, hX⟩ := Option.bind_eq_some_iff.mp hr
  have m1 := (hJ r' hF).1
  have m2 := (h r' r hX).1
  refine ⟨m1.trans m2, ?_⟩
  intro p l e s m args below meth c D aI aB H0 io Lv K0 mc ms H locs cells slots la cx hS hH hl hll hst hlo h1 h2
  have c1 := m1.1
  have c2 := m1.2
  have c3 := m2.1
  have c4 := m2.2
  have hav : ∀ x ∈ as, j_live Lv x := fun x hx => hst x (hsv x hx)
  have hM := J_met hB as hJ hF l D aI aB H0 io Lv K0 hav hnl
  refine j_runW (hrun p l e s m args below meth c D aI aB H0 io Lv K0 mc ms H locs cells slots la _ _ _ cx hS hH hl.1 hav (by omega) (by omega) hM) (fun io' Lv' H1 L hx hH' hlv hL => ?_)
  have hst9 : ∀ x ∈ st, j_live Lv x := fun x hx => hst x (hsv2 x hx)
  have K := (h r' r hX).2 p l e s m args below meth c D aI aB H0 io' Lv' K0 mc ms H1 (locs ++ L) (cells + (j_cc (em' r').2 - j_cc M)) (slots + (j_cs (em' r').2 - j_cs M)) la cx (hS.ext hx) hH' (by rw [j_lm_ext hx hll]; exact hl) (fun q hq => j_live_ext hx (hll q hq)) (fun x hx9 => by
    rcases List.mem_append.mp hx9 with h9 | h9
    · exact hlv x (by simpa using h9)
    · exact j_live_ext hx (hst9 x h9)) (j_locs hlo hL) (by omega) (by omega)
  have e5 : (((em' r').1.toList ++ st).map (j_val io')) = ((em' r').1.map (j_val io')).toList ++ st.map (j_val io) := by
    rw [List.map_append, j_st_ext hx hst9]
    congr 1
    cases (em' r').1 <;> rfl
  rw [e5] at K
  refine fun T hT XX => ?_
  obtain ⟨t, a1, o, b1, b2, ⟨io2, Lv2, x1, x2, x3, x4⟩, b3⟩ := K T hT XX
  exact ⟨t, a1, o, b1, b2, ⟨io2, Lv2, hx.trans x1, x2, x3, x4⟩, b3⟩
theorem j_hW {st : List j_V} (hst : st.length ≤ 8) (io : Nat → Nat) (m : MethodId) (pc : Nat) (la : Array Slot) (sv : List Value) : 2 * (F0 m pc la sv).monitorRoom + ((st.map (j_val io)).map fun v => v.category).sum ≤ 8 := by
  rw [j_catsum]
  show 2 * 0 + st.length ≤ 8
  omega
/-- invokevirtual -/
theorem j_callV {F : Option ρ'} {X : ρ' → Option ρ} {g : Nat × Nat × Nat} (as : List j_V) (d : decode cc pc = .ok (.invokevirtual ix, 3)) (hB : j_CB y' cc' nL' ret' n) (hV : j_CV y.cls ix y') (hg : j_RC g y'.cls) (hg0 : g.1 ≠ 0) (hn : as.length = n) (hst : st.length ≤ 8) (hfr : fr' + 1 ≤ fr ∧ 8 + (nL' + 11) + lo' ≤ lo) (hnl : as.length + 1 ≤ nL') (hJ : J y' cc' nL' ret' fr' lo' em' 0 (j_lz 0 (.inr g :: as)) [] M F) (h : ∀ r', J y cc nL ret fr lo em (pc + 3) ll ((em' r').1.toList ++ st) (em' r').2 (X r')) : J y cc nL ret fr lo em pc ll (as.reverse ++ .inr g :: st) M (F.bind X) := by
  refine j_call (.inr g :: as) hB hJ hnl ?_ (fun x hx => by
    rcases List.mem_cons.mp hx with rfl | h9
    · simp
    · exact List.mem_append_left _ (List.mem_reverse.mpr h9)) (fun x hx => List.mem_append_right _ (List.mem_cons_of_mem _ hx)) h
  intro p l e s m args below meth c D aI aB H0 io Lv K0 mc ms H locs cells slots la mc' ms' Qc cx hS hH hl hav hc hs hM
  have hrg : j_val io (.inr g) = .ref (io g.2.2) := by simp [j_val, hg0]
  have hPre : PreV s H y'.cls (io g.2.2) (j_Pc D aI aB H0 io Lv K0 M (.inr g :: as)) (as.map (j_val io)) := ⟨j_Pc_blind, j_recv hS hH hg (hav _ List.mem_cons_self hg0), fun U hU hW => ⟨by rw [List.map_cons, hrg], hS.warm hW, by rw [hU]; exact hH⟩⟩
  have hstk : (as.reverse ++ .inr g :: st).map (j_val io) = (as.map (j_val io)).reverse ++ .ref (io g.2.2) :: st.map (j_val io) := by
    rw [List.map_append, List.map_cons, hrg, List.map_reverse]
  rw [hstk, List.map_cons, hrg]
  have hFix : CallFix p m c cc nL s args j_ws y.cls := ⟨cx.1, cx.2.1, cx.2.2.2.1, cx.2.2.2.2.2.1, cx.2.2.2.2.1⟩
  rcases hV.1 with hlk | ⟨host, hlk⟩
  · exact va_runV hFix hM ⟨callB_of n cx.2.2.2.2.1 (j_ws_good hB.2.1) rfl rfl rfl (cx.2.2.2.2.1 _ hB.2.2.1) (cx.2.2.2.2.1 _ hlk) hB.2.2.2 hfr, cx.2.2.2.2.1 _ hV.2.1, cx.2.2.2.2.1 _ hV.2.2⟩ hPre rfl (by rw [List.length_map]; exact hn) hl rfl (j_hW hst io m pc la _) d ⟨hc, hs⟩
  · exact va_runVN hFix hM ⟨va_cnB n cx.2.2.2.2.1 (j_ws_good hB.2.1) rfl rfl rfl (hS.2.2.2.2.2.2.2.2.2.2.1 _ hlk) (cx.2.2.2.2.1 _ hB.2.2.1) hB.2.2.2 hfr, cx.2.2.2.2.1 _ hV.2.1, cx.2.2.2.2.1 _ hV.2.2⟩ hPre rfl (by rw [List.length_map]; exact hn) hl rfl (j_hW hst io m pc la _) d ⟨hc, hs⟩
/-- invokestatic -/
theorem j_callS {F : Option ρ'} {X : ρ' → Option ρ} (as : List j_V) (d : decode cc pc = .ok (.invokestatic ix, 3)) (hB : j_CB y' cc' nL' ret' n) (hV : j_CS y.cls ix y') (hn : as.length = n) (hst : st.length ≤ 8) (hfr : fr' + 1 ≤ fr ∧ 8 + (nL' + 11) + lo' ≤ lo) (hnl : as.length ≤ nL') (hJ : J y' cc' nL' ret' fr' lo' em' 0 (j_lz 0 as) [] M F) (h : ∀ r', J y cc nL ret fr lo em (pc + 3) ll ((em' r').1.toList ++ st) (em' r').2 (X r')) : J y cc nL ret fr lo em pc ll (as.reverse ++ st) M (F.bind X) := by
  refine j_call as hB hJ hnl ?_ (fun x hx => List.mem_append_left _ (List.mem_reverse.mpr hx)) (fun x hx => List.mem_append_right _ hx) h
  intro p l e s m args below meth c D aI aB H0 io Lv K0 mc ms H locs cells slots la mc' ms' Qc cx hS hH hl hav hc hs hM
  have hPre : PreS s H (j_Pc D aI aB H0 io Lv K0 M as) (as.map (j_val io)) := ⟨j_Pc_blind, fun U hU hW => ⟨rfl, hS.warm hW, by rw [hU]; exact hH⟩⟩
  have hstk : (as.reverse ++ st).map (j_val io) = (as.map (j_val io)).reverse ++ st.map (j_val io) := by
    rw [List.map_append, List.map_reverse]
  rw [hstk]
  have hFix : CallFix p m c cc nL s args j_ws y.cls := ⟨cx.1, cx.2.1, cx.2.2.2.1, cx.2.2.2.2.2.1, cx.2.2.2.2.1⟩
  rcases hV.1 with hlk | ⟨host, hlk⟩
  · exact va_runS hFix hM ⟨callB_of n cx.2.2.2.2.1 (j_ws_good hB.2.1) rfl rfl rfl (cx.2.2.2.2.1 _ hB.2.2.1) (cx.2.2.2.2.1 _ hlk) hB.2.2.2 hfr, cx.2.2.2.2.1 _ hV.2⟩ hPre rfl (by rw [List.length_map]; exact hn) hl rfl (j_hW hst io m pc la _) d ⟨hc, hs⟩
  · exact va_runSN hFix hM ⟨va_cnB n cx.2.2.2.2.1 (j_ws_good hB.2.1) rfl rfl rfl (hS.2.2.2.2.2.2.2.2.2.2.1 _ hlk) (cx.2.2.2.2.1 _ hB.2.2.1) hB.2.2.2 hfr, cx.2.2.2.2.1 _ hV.2, trivial⟩ hPre rfl (by rw [List.length_map]; exact hn) hl rfl (j_hW hst io m pc la _) d ⟨hc, hs⟩
/-! the four forms that rows use: virtual or static, int or void -/
theorem J_cvi {F : Option (Int32 × j_M)} {X : Int32 → j_M → Option ρ} {g : Nat × Nat × Nat} {sv : List j_V} (as : List j_V) (d : decode cc pc = .ok (.invokevirtual ix, 3)) (hB : j_CB y' cc' nL' ret' n) (hV : j_CV y.cls ix y') (hg : j_RC g y'.cls) (hg0 : g.1 ≠ 0) (hn : as.length = n) (hst : st.length ≤ 8) (hfr : fr' + 1 ≤ fr ∧ 8 + (nL' + 11) + lo' ≤ lo) (hnl : as.length + 1 ≤ nL') (hsv : as.reverse ++ .inr g :: st = sv) (hJ : J y' cc' nL' ret' fr' lo' j_ei 0 (j_lz 0 (.inr g :: as)) [] M F) (h : ∀ r M', J y cc nL ret fr lo em (pc + 3) ll (.inl r :: st) M' (X r M')) : J y cc nL ret fr lo em pc ll sv M (obi F X) := by
  subst hsv
  exact j_callV as d hB hV hg hg0 hn hst hfr hnl hJ (fun r' => h r'.1 r'.2)
theorem J_cvv {F : Option j_M} {X : j_M → Option ρ} {g : Nat × Nat × Nat} {sv : List j_V} (as : List j_V) (d : decode cc pc = .ok (.invokevirtual ix, 3)) (hB : j_CB y' cc' nL' ret' n) (hV : j_CV y.cls ix y') (hg : j_RC g y'.cls) (hg0 : g.1 ≠ 0) (hn : as.length = n) (hst : st.length ≤ 8) (hfr : fr' + 1 ≤ fr ∧ 8 + (nL' + 11) + lo' ≤ lo) (hnl : as.length + 1 ≤ nL') (hsv : as.reverse ++ .inr g :: st = sv) (hJ : J y' cc' nL' ret' fr' lo' j_ev 0 (j_lz 0 (.inr g :: as)) [] M F) (h : ∀ M', J y cc nL ret fr lo em (pc + 3) ll st M' (X M')) : J y cc nL ret fr lo em pc ll sv M (obv F X) := by
  subst hsv
  exact j_callV as d hB hV hg hg0 hn hst hfr hnl hJ (fun r' => h r')
theorem J_csi {F : Option (Int32 × j_M)} {X : Int32 → j_M → Option ρ} {sv : List j_V} (as : List j_V) (d : decode cc pc = .ok (.invokestatic ix, 3)) (hB : j_CB y' cc' nL' ret' n) (hV : j_CS y.cls ix y') (hn : as.length = n) (hst : st.length ≤ 8) (hfr : fr' + 1 ≤ fr ∧ 8 + (nL' + 11) + lo' ≤ lo) (hnl : as.length ≤ nL') (hsv : as.reverse ++ st = sv) (hJ : J y' cc' nL' ret' fr' lo' j_ei 0 (j_lz 0 as) [] M F) (h : ∀ r M', J y cc nL ret fr lo em (pc + 3) ll (.inl r :: st) M' (X r M')) : J y cc nL ret fr lo em pc ll sv M (obi F X) := by
  subst hsv
  exact j_callS as d hB hV hn hst hfr hnl hJ (fun r' => h r'.1 r'.2)
theorem J_csv {F : Option j_M} {X : j_M → Option ρ} {sv : List j_V} (as : List j_V) (d : decode cc pc = .ok (.invokestatic ix, 3)) (hB : j_CB y' cc' nL' ret' n) (hV : j_CS y.cls ix y') (hn : as.length = n) (hst : st.length ≤ 8) (hfr : fr' + 1 ≤ fr ∧ 8 + (nL' + 11) + lo' ≤ lo) (hnl : as.length ≤ nL') (hsv : as.reverse ++ st = sv) (hJ : J y' cc' nL' ret' fr' lo' j_ev 0 (j_lz 0 as) [] M F) (h : ∀ M', J y cc nL ret fr lo em (pc + 3) ll st M' (X M')) : J y cc nL ret fr lo em pc ll sv M (obv F X) := by
  subst hsv
  exact j_callS as d hB hV hn hst hfr hnl hJ (fun r' => h r')
end JR
