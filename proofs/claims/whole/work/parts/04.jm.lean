/-! the world moves -/
theorem j_Kw.moved {s U : State} {H0 : Heap} (hv : s.vm.Alike U.vm) (h : j_Kw s H0) : j_Kw U H0 := by
  obtain ⟨q, h1, h2⟩ := h
  exact ⟨q, h1.moved hv, h2.moved hv⟩
theorem j_Cst.warm {io : Nat → Nat} {Lv : j_L} {s U : State} {H0 : Heap} (hW : s.WarmedH U.vm) (h : j_Cst io Lv s H0) : j_Cst io Lv U H0 := by
  obtain ⟨⟨a1, b1⟩, ⟨a2, b2⟩, ⟨a3, b3⟩, c1, c2, c3, c4, c5, c6, c7, c8⟩ := h
  have hv := hW.alike
  refine ⟨⟨a1, b1.moved hv⟩, ⟨a2, b2.moved hv⟩, ⟨a3, b3.moved hv⟩, c1.moved hv, ?_, c3.moved hv, c4, fun q hq => (c5 q hq).warm hW, fun q hq => (c6 q hq).warmM hW, c7, c8.moved hv⟩
  rcases c2 with h | ⟨h, h'⟩
  · exact Or.inl (h.moved hv)
  · exact Or.inr ⟨h, h'.moved hv⟩
theorem j_Cst.same {io : Nat → Nat} {Lv : j_L} {s U : State} {H0 : Heap} (hW : U.vm = s.vm) (h : j_Cst io Lv s H0) : j_Cst io Lv U H0 := by
  obtain ⟨⟨a1, b1⟩, ⟨a2, b2⟩, ⟨a3, b3⟩, c1, c2, c3, c4, c5, c6, c7, c8⟩ := h
  have hv : s.vm.Alike U.vm := by rw [hW]; exact Vm.Alike.refl _
  refine ⟨⟨a1, b1.moved hv⟩, ⟨a2, b2.moved hv⟩, ⟨a3, b3.moved hv⟩, c1.moved hv, ?_, c3.moved hv, c4, fun q hq => (c5 q hq).same hW, fun q hq => (c6 q hq).same rfl hW.symm, c7, c8.moved hv⟩
  rcases c2 with h | ⟨h, h'⟩
  · exact Or.inl (h.moved hv)
  · exact Or.inr ⟨h, h'.moved hv⟩
theorem j_S.warm {D : va_G} {aI aB : ClassId} {H0 : Heap} {io : Nat → Nat} {Lv : j_L} {K0 : j_M} {s U : State} (hW : s.WarmedH U.vm) (h : j_S D aI aB H0 io Lv K0 s) : j_S D aI aB H0 io Lv K0 U :=
  ⟨va_K.moved hW.alike h.1, fun n a ha => (h.2.1 n a ha).moved hW.alike, h.2.2.warm hW⟩
theorem j_S.same {D : va_G} {aI aB : ClassId} {H0 : Heap} {io : Nat → Nat} {Lv : j_L} {K0 : j_M} {s U : State} (hW : U.vm = s.vm) (h : j_S D aI aB H0 io Lv K0 s) : j_S D aI aB H0 io Lv K0 U := by
  have hv : s.vm.Alike U.vm := by rw [hW]; exact Vm.Alike.refl _
  exact ⟨va_K.moved hv h.1, fun n a ha => (h.2.1 n a ha).moved hv, h.2.2.same hW⟩
theorem j_Cst.ext {io io' : Nat → Nat} {Lv Lv' : j_L} {s : State} {H0 : Heap} (hx : j_ext io Lv io' Lv') (h : j_Cst io Lv s H0) : j_Cst io' Lv' s H0 := by
  obtain ⟨⟨a1, b1⟩, ⟨a2, b2⟩, ⟨a3, b3⟩, c1, c2, ⟨c3, c3'⟩, c4, c5, c6, c7, c8⟩ := h
  have e1 := (hx.1 _ _ _ a1)
  have e2 := (hx.1 _ _ _ a2)
  have e3 := (hx.1 _ _ _ a3)
  have eK : ∀ i, i < 12 → io' (321 + i) = io (321 + i) := fun i hi => (hx.1 _ _ _ (c4 i hi).1).2
  have eV : ∀ i, i < 12 → io' (341 + i) = io (341 + i) := fun i hi => (hx.1 _ _ _ (c4 i hi).2).2
  refine ⟨⟨e1.1, by rw [e1.2]; exact b1⟩, ⟨e2.1, by rw [e2.2]; exact b2⟩, ⟨e3.1, by rw [e3.2]; exact b3⟩, c1, ?_, ⟨?_, ?_⟩, fun i hi => ⟨(hx.1 _ _ _ (c4 i hi).1).1, (hx.1 _ _ _ (c4 i hi).2).1⟩, ?_, c6, fun n u hu => c7 n u (hx.2 4 n u (by omega) (by omega) hu), c8⟩
  · rcases c2 with h | ⟨h, h'⟩
    · exact Or.inl h
    · exact Or.inr ⟨(hx.1 _ _ _ h).1, by rw [(hx.1 _ _ _ h).2]; exact h'⟩
  · intro i hi
    have := c3 i hi
    simp only [eK i hi, eV i hi]
    exact this
  · intro i j hi hj he
    simp only [eK i hi, eK j hj] at he
    exact c3' i j hi hj he
  · intro q hq
    have hlt : q.2.2.1 < 12 := by
      revert q
      decide
    rw [eK _ hlt]
    exact c5 q hq
theorem j_S.ext {D : va_G} {aI aB : ClassId} {H0 : Heap} {io io' : Nat → Nat} {Lv Lv' : j_L} {K0 : j_M} {s : State} (hx : j_ext io Lv io' Lv') (h : j_S D aI aB H0 io Lv K0 s) : j_S D aI aB H0 io' Lv' K0 s := by
  refine ⟨h.1, fun n a ha => ?_, h.2.2.ext hx⟩
  have hl := hx.2 3 n a (by omega) (by omega) ha
  rw [(hx.1 _ _ _ hl).2]
  exact h.2.1 n a hl
theorem j_val_ext {io io' : Nat → Nat} {Lv Lv' : j_L} (hx : j_ext io Lv io' Lv') {x : j_V} (h : j_live Lv x) : j_val io' x = j_val io x := by
  rcases x with i | ⟨k, n, a⟩
  · rfl
  · by_cases hk : k = 0
    · simp [j_val, hk]
    · simp [j_val, hk, (hx.1 _ _ _ (h hk)).2]
theorem j_live_ext {io io' : Nat → Nat} {Lv Lv' : j_L} (hx : j_ext io Lv io' Lv') {x : j_V} (h : j_live Lv x) : j_live Lv' x := by
  rcases x with i | ⟨k, n, a⟩
  · trivial
  · exact fun hk => (hx.1 _ _ _ (h hk)).1
theorem j_lm_ext {io io' : Nat → Nat} {Lv Lv' : j_L} (hx : j_ext io Lv io' Lv') {ll : List (Nat × j_V)} (h : ∀ q ∈ ll, j_live Lv q.2) : j_lm io' ll = j_lm io ll := by
  unfold j_lm
  exact List.map_congr_left fun q hq => by rw [j_val_ext hx (h q hq)]
theorem j_st_ext {io io' : Nat → Nat} {Lv Lv' : j_L} (hx : j_ext io Lv io' Lv') {st : List j_V} (h : ∀ q ∈ st, j_live Lv q) : st.map (j_val io') = st.map (j_val io) :=
  List.map_congr_left fun q hq => j_val_ext hx (h q hq)
theorem j_ext.rfl {io : Nat → Nat} {Lv : j_L} : j_ext io Lv io Lv := ⟨fun _ _ _ h => ⟨h, _root_.rfl⟩, fun _ _ _ _ _ h => h⟩
theorem j_ext.trans {io io' io'' : Nat → Nat} {Lv Lv' Lv'' : j_L} (h : j_ext io Lv io' Lv') (h' : j_ext io' Lv' io'' Lv'') : j_ext io Lv io'' Lv'' :=
  ⟨fun k n a ha => ⟨(h'.1 k n a (h.1 k n a ha).1).1, by rw [(h'.1 k n a (h.1 k n a ha).1).2, (h.1 k n a ha).2]⟩, fun k n a h1 h2 h3 => h.2 k n a h1 h2 (h'.2 k n a h1 h2 h3)⟩
/-! one cell is written -/
theorem j_ok_at {D : va_G} {aI aB : ClassId} {z : Nat} {io : Nat → Nat} {Lv : j_L} {K0 M M' : j_M} {H H' : Heap} {k n a : Nat} (hM : M' a = M a) (hH : H'[io a]? = H[io a]?) (h : j_ok D aI aB z io Lv K0 M H k n a) : j_ok D aI aB z io Lv K0 M' H' k n a := by
  obtain ⟨h1, h2, h3, h4⟩ := h
  refine ⟨fun e => ?_, fun e => ?_, ?_, fun ci e => ?_⟩
  · rw [hH, hM]; exact h1 e
  · rw [hH, hM]; exact h2 e
  · exact ⟨fun e => by rw [hM]; exact h3.1 e, h3.2⟩
  · obtain ⟨r, q1, q2, q3, q4⟩ := h4 ci e
    refine ⟨r, q1, (q2.kept hH).to (fun k _ => ?_), q3, fun f hf g hg hh => q4 f hf g hg (by rw [hM] at hh; exact hh)⟩
    unfold j_fv; rw [hM]
theorem j_H_wr {D : va_G} {aI aB : ClassId} {H0 : Heap} {io : Nat → Nat} {Lv : j_L} {K0 M M' : j_M} {H H' : Heap} {k n a : Nat} (hH : j_H D aI aB H0 io Lv K0 M H) (hk : k < 3 ∨ 10 ≤ k) (ha0 : a ≠ 0) (hl : Lv k n a) (hz : H0.size ≤ io a) (hs : H'.size = H.size) (ho : ∀ q, q ≠ io a → H'[q]? = H[q]?) (hM : ∀ x, x ≠ a → M' x = M x) (hn : j_ok D aI aB H0.size io Lv K0 M' H' k n a) : j_H D aI aB H0 io Lv K0 M' H' := by
  obtain ⟨g1, g2, g3, g4, g5, g6⟩ := hH
  refine ⟨by rw [hs]; exact g1, fun q hq => by rw [ho q (by omega)]; exact g2 q hq, g3, g4, fun k' n' a' h' => ?_, fun k' n' a' h' => by rw [hM 0 (fun e => ha0 e.symm)]; exact g6 k' n' a' h'⟩
  by_cases h69 : 6 ≤ k' ∧ k' < 10
  · exact ⟨fun e => by omega, fun e => by omega, ⟨fun e => by omega, fun _ _ => by omega⟩, fun ci e => by omega⟩
  have hc : ¬ (k' < 3 ∨ 10 ≤ k') → io a' ≠ io a := fun hc e => by
    have := (g5 k' n' a' h').2.2.1.2 (by omega) (by omega)
    omega
  by_cases he : a' = a
  · subst he
    have hk' : k' < 3 ∨ 10 ≤ k' := Decidable.byContradiction fun hh => hc hh rfl
    obtain ⟨-, e2, e3⟩ := g3 k n a' k' n' a' hl h' hk hk' rfl
    subst e2; subst e3
    exact hn
  · refine j_ok_at (hM a' he) (ho _ fun e => ?_) (g5 k' n' a' h')
    by_cases hk' : k' < 3 ∨ 10 ≤ k'
    · exact he (g3 k' n' a' k n a h' hl hk' hk e).1
    · exact hc hk' e
