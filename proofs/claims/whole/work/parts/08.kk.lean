def fu : Nat := 1000000
abbrev ix (i : Int32) : Nat := i.toNatClampNeg
theorem ac_nat : Cond.native arraycopyName ∈ j_ws := j_in 571 (by decide +kernel) (by decide +kernel)
theorem ac_stat : Cond.static arraycopyName ∈ j_ws := j_in 570 (by decide +kernel) (by decide +kernel)
theorem ac_ini : Cond.initialized "java/lang/System" ∈ j_ws := j_in 118 (by decide +kernel) (by decide +kernel)
theorem mx_stat : Cond.static Lib.Math.max.name ∈ j_ws := j_in 619 (by decide +kernel) (by decide +kernel)
theorem mx_ini : Cond.initialized "java/lang/Math" ∈ j_ws := j_in 120 (by decide +kernel) (by decide +kernel)
theorem mx_code : Cond.code Lib.Math.max.name Lib.Math.max.code 2 (some .int) ∈ j_ws := j_in 620 (by decide +kernel) (by decide +kernel)
theorem rc_0 {n a : Nat} : j_RC (10, n, a) RX1 := Or.inl ⟨0, TX1, 15, rfl, rfl⟩
theorem rc_1 {n a : Nat} : j_RC (11, n, a) RX5 := Or.inl ⟨1, TX5, 15, rfl, rfl⟩
theorem rc_2 {n a : Nat} : j_RC (12, n, a) RX6 := Or.inl ⟨2, TX6, 3, rfl, rfl⟩
theorem rc_3 {n a : Nat} : j_RC (13, n, a) RX8 := Or.inl ⟨3, TX8, 13, rfl, rfl⟩
theorem rc_4 {n a : Nat} : j_RC (14, n, a) RX9 := Or.inl ⟨4, TX9, 8, rfl, rfl⟩
theorem rc_5 {n a : Nat} : j_RC (15, n, a) RX10 := Or.inl ⟨5, TX10, 17, rfl, rfl⟩
theorem rc_6 {n a : Nat} : j_RC (16, n, a) RX11 := Or.inl ⟨6, TX11, 5, rfl, rfl⟩
theorem rc_7 {n a : Nat} : j_RC (17, n, a) RX12 := Or.inl ⟨7, TX12, 32, rfl, rfl⟩
def osw {ρ : Type} (x : Int32) : List (Int32 × Option ρ) → Option ρ → Option ρ
  | [], D => D
  | (c, A) :: l, D => if x = c then A else osw x l D
def Jsw {ρ : Type} (P : Nat → Option ρ → Prop) : List (Int32 × Option ρ) → List Nat → Prop
  | [], [] => True
  | (_, A) :: l, t :: ts => P t A ∧ Jsw P l ts
  | _, _ => False
def labs : Int → Nat → List Int32
  | _, 0 => []
  | c, n + 1 => Int32.ofInt c :: labs (c + 1) n
theorem osw_at {ρ : Type} {P : Nat → Option ρ → Prop} {x : Int32} {D : Option ρ} {r : ρ} : ∀ (L : List (Int32 × Option ρ)) (tg : List Nat) (c : Int), L.map (·.1) = labs c tg.length → Jsw P L tg → 0 ≤ c → c + tg.length ≤ 2147483648 → osw x L D = some r → (∃ (j t : Nat) (A : Option ρ), x.toInt = c + j ∧ tg[j]? = some t ∧ P t A ∧ A = some r) ∨ ((∀ j : Nat, j < tg.length → x.toInt ≠ c + j) ∧ D = some r)
  | [], [], c, _, _, _, _, h => Or.inr ⟨fun j hj => (by cases hj), h⟩
  | [], _ :: _, _, _, hJ, _, _, _ => by cases hJ
  | (b, A) :: l, [], _, _, hJ, _, _, _ => by cases hJ
  | (b, A) :: l, t :: ts, c, hl, hJ, h0, h1, h => by
    have hb : b = Int32.ofInt c ∧ l.map (·.1) = labs (c + 1) ts.length := by
      simpa [labs] using hl
    have hci : (Int32.ofInt c).toInt = c := Int32.toInt_ofInt_of_le (by omega) (by simp at h1; omega)
    unfold osw at h
    by_cases hx : x = b
    · rw [if_pos hx] at h
      exact Or.inl ⟨0, t, A, by rw [hx, hb.1, hci]; simp, rfl, hJ.1, h⟩
    · rw [if_neg hx] at h
      have hne : x.toInt ≠ c := fun e => hx (by rw [hb.1]; exact Int32.toInt_inj.mp (by rw [hci]; exact e))
      rcases osw_at l ts (c + 1) hb.2 hJ.2 (by omega) (by simp at h1; omega) h with ⟨j, t', A', e1, e2, e3, e4⟩ | ⟨e1, e2⟩
      · exact Or.inl ⟨j + 1, t', A', by rw [e1]; push_cast; omega, e2, e3, e4⟩
      · refine Or.inr ⟨fun j hj => ?_, e2⟩
        cases j with
        | zero => simpa using hne
        | succ j => have := e1 j (by simpa using hj); push_cast; omega
section JR
variable {ρ : Type} {y : MethodName} {cc : ByteArray} {nL : Nat} {ret : Option FieldType} {fr lo : Nat} {em : ρ → Option j_V × j_M} {pc q : Nat} {ll : List (Nat × j_V)} {st : List j_V} {M : j_M} {X : Option ρ} {XI : Int32 → Option ρ} {XM : j_M → Option ρ} {y' : MethodName} {cc' : ByteArray} {nL' : Nat} {ret' : Option FieldType} {fr' lo' n ix9 : Nat}
theorem K_tsw {dflt lw hi : Int} {offs : Array Int} {len : Nat} {x : Int32} {L : List (Int32 × Option ρ)} {D : Option ρ} {dt : Nat} (tg : List Nat) (d : decode cc pc = .ok (.tableswitch dflt lw hi offs, len)) (hh : (decide (0 ≤ lw) && decide (hi < 2147483648) && decide (hi = lw + tg.length - 1)) = true) (hl : L.map (·.1) = labs lw tg.length) (ho : offs.toList = tg.map (fun (t : Nat) => (t : Int) - pc)) (hd : (pc : Int) + dflt = dt) (h : Jsw (fun t A => J y cc nL ret fr lo em t ll st M A) L tg) (hD : J y cc nL ret fr lo em dt ll st M D) : J y cc nL ret fr lo em pc ll (.inl x :: st) M (osw x L D) := by
  simp only [Bool.and_eq_true, decide_eq_true_eq] at hh
  obtain ⟨⟨h0, h1⟩, h2⟩ := hh
  intro r hr
  rcases osw_at L tg lw hl h h0 (by omega) hr with ⟨j, t, A, e1, e2, e3, e4⟩ | ⟨e1, e2⟩
  · have hj : j < tg.length := (List.getElem?_eq_some_iff.mp e2).1
    refine J_tin (x := x) (off := (t : Int) - pc) (tgt := t) (X := A) d (by omega) (by omega) ?_ (by omega) e3 r e4
    have : (x.toInt - lw).toNat = j := by omega
    rw [this, ← Array.getElem?_toList, ho, List.getElem?_map, e2]
    rfl
  · refine J_tout (x := x) (tgt := dt) (X := D) d ?_ hd hD r e2
    by_cases hx : x.toInt < lw
    · exact Or.inl hx
    · by_cases hy : hi < x.toInt
      · exact Or.inr hy
      · exact absurd (show x.toInt = lw + ((x.toInt - lw).toNat : Nat) by omega) (e1 _ (by omega))
theorem K_lsw2 {dflt k1 o1 k2 o2 : Int} {len : Nat} {x c1 c2 : Int32} {A B D : Option ρ} {dt t1 t2 : Nat} (d : decode cc pc = .ok (.lookupswitch dflt #[(k1, o1), (k2, o2)], len)) (hs : decide (k1 < k2) = true) (h1 : c1.toInt = k1) (h2 : c2.toInt = k2) (g1 : (pc : Int) + o1 = t1) (g2 : (pc : Int) + o2 = t2) (g3 : (pc : Int) + dflt = dt) (hA : J y cc nL ret fr lo em t1 ll st M A) (hB : J y cc nL ret fr lo em t2 ll st M B) (hD : J y cc nL ret fr lo em dt ll st M D) : J y cc nL ret fr lo em pc ll (.inl x :: st) M (osw x [(c1, A), (c2, B)] D) := by
  have hs := of_decide_eq_true hs
  have hp : (((#[(k1, o1), (k2, o2)] : Array (Int × Int)).toList.zip ((#[(k1, o1), (k2, o2)] : Array (Int × Int)).toList.drop 1)).all (fun (a, next) => a.1 < next.1)) = true := by simp [hs]
  intro r hr
  simp only [osw] at hr
  by_cases e1 : x = c1
  · rw [if_pos e1] at hr
    exact J_lsw (off := o1) (tgt := t1) d hp (by subst e1; subst h1; simp [Op.lookupswitch.offset]) g1 hA r hr
  · rw [if_neg e1] at hr
    have n1 : ¬ k1 = x.toInt := fun e => e1 (Int32.toInt_inj.mp (by rw [h1, e]))
    by_cases e2 : x = c2
    · rw [if_pos e2] at hr
      exact J_lsw (off := o2) (tgt := t2) d hp (by subst e2; subst h2; simp [Op.lookupswitch.offset, n1]) g2 hB r hr
    · rw [if_neg e2] at hr
      have n2 : ¬ k2 = x.toInt := fun e => e2 (Int32.toInt_inj.mp (by rw [h2, e]))
      exact J_lsw (off := dflt) (tgt := dt) d hp (by simp [Op.lookupswitch.offset, n1, n2]) g3 hD r hr
theorem K_ifnn {g : Nat × Nat × Nat} {off : Int} {tgt : Nat} {A B : Option ρ} (d : decode cc pc = .ok (.ifnonnull off, 3)) (ht : (pc : Int) + off = (tgt : Int)) (ha : J y cc nL ret fr lo em tgt ll st M A) (hq : pc + 3 = q) (hb : J y cc nL ret fr lo em q ll st M B) : J y cc nL ret fr lo em pc ll (.inr g :: st) M (if g.1 = 0 then B else A) := by subst hq; exact J_ifnn d ht ha hb
/-- a field that may be null, where it is not -/
theorem K_getNN {kd ix ci a kd2 n2 off a2 : Nat} (k : Nat) (d : decode cc pc = .ok (.getfield ix, 3)) (hf : j_F y.cls ix ci k) (hkd : kd = 10 + ci) (hs : j_fs ci k = some (kd2, n2, off, true)) (h0 : kd2 ≠ 0) (ha : a + off = a2) (hq : pc + 3 = q) (h : J y cc nL ret fr lo em q ll (.inr (kd2, n2, a2) :: st) M X) : J y cc nL ret fr lo em pc ll (.inr (kd, 0, a) :: st) M (gn (M a k) X) := by
  intro r hr
  obtain ⟨hz, hr⟩ := gn_some hr
  exact K_getN k d hf hkd hs h0 ha hq (X := X) (by rw [if_neg hz]; exact h) r hr
theorem K_cvi {F : Option (Int32 × j_M)} {X : Int32 → j_M → Option ρ} {g : Nat × Nat × Nat} {sv : List j_V} (as : List j_V) (d : decode cc pc = .ok (.invokevirtual ix9, 3)) (hB : j_CB y' cc' nL' ret' n) (hV : j_CV y.cls ix9 y') (hg : j_RC g y'.cls) (hg0 : g.1 ≠ 0) (hn : as.length = n) (hst : st.length ≤ 8) (hfr : fr' + 1 ≤ fr ∧ 8 + (nL' + 11) + lo' ≤ lo) (hnl : as.length + 1 ≤ nL') (hsv : as.reverse ++ .inr g :: st = sv) (hJ : J y' cc' nL' ret' fr' lo' j_ei 0 (j_lz 0 (.inr g :: as)) [] M F) (hq : pc + 3 = q) (h : ∀ r M', J y cc nL ret fr lo em q ll (.inl r :: st) M' (X r M')) : J y cc nL ret fr lo em pc ll sv M (obi F X) := by subst hq; exact J_cvi as d hB hV hg hg0 hn hst hfr hnl hsv hJ h
theorem K_cvv {F : Option j_M} {X : j_M → Option ρ} {g : Nat × Nat × Nat} {sv : List j_V} (as : List j_V) (d : decode cc pc = .ok (.invokevirtual ix9, 3)) (hB : j_CB y' cc' nL' ret' n) (hV : j_CV y.cls ix9 y') (hg : j_RC g y'.cls) (hg0 : g.1 ≠ 0) (hn : as.length = n) (hst : st.length ≤ 8) (hfr : fr' + 1 ≤ fr ∧ 8 + (nL' + 11) + lo' ≤ lo) (hnl : as.length + 1 ≤ nL') (hsv : as.reverse ++ .inr g :: st = sv) (hJ : J y' cc' nL' ret' fr' lo' j_ev 0 (j_lz 0 (.inr g :: as)) [] M F) (hq : pc + 3 = q) (h : ∀ M', J y cc nL ret fr lo em q ll st M' (X M')) : J y cc nL ret fr lo em pc ll sv M (obv F X) := by subst hq; exact J_cvv as d hB hV hg hg0 hn hst hfr hnl hsv hJ h
theorem K_csi {F : Option (Int32 × j_M)} {X : Int32 → j_M → Option ρ} {sv : List j_V} (as : List j_V) (d : decode cc pc = .ok (.invokestatic ix9, 3)) (hB : j_CB y' cc' nL' ret' n) (hV : j_CS y.cls ix9 y') (hn : as.length = n) (hst : st.length ≤ 8) (hfr : fr' + 1 ≤ fr ∧ 8 + (nL' + 11) + lo' ≤ lo) (hnl : as.length ≤ nL') (hsv : as.reverse ++ st = sv) (hJ : J y' cc' nL' ret' fr' lo' j_ei 0 (j_lz 0 as) [] M F) (hq : pc + 3 = q) (h : ∀ r M', J y cc nL ret fr lo em q ll (.inl r :: st) M' (X r M')) : J y cc nL ret fr lo em pc ll sv M (obi F X) := by subst hq; exact J_csi as d hB hV hn hst hfr hnl hsv hJ h
theorem K_csv {F : Option j_M} {X : j_M → Option ρ} {sv : List j_V} (as : List j_V) (d : decode cc pc = .ok (.invokestatic ix9, 3)) (hB : j_CB y' cc' nL' ret' n) (hV : j_CS y.cls ix9 y') (hn : as.length = n) (hst : st.length ≤ 8) (hfr : fr' + 1 ≤ fr ∧ 8 + (nL' + 11) + lo' ≤ lo) (hnl : as.length ≤ nL') (hsv : as.reverse ++ st = sv) (hJ : J y' cc' nL' ret' fr' lo' j_ev 0 (j_lz 0 as) [] M F) (hq : pc + 3 = q) (h : ∀ M', J y cc nL ret fr lo em q ll st M' (X M')) : J y cc nL ret fr lo em pc ll sv M (obv F X) := by subst hq; exact J_csv as d hB hV hn hst hfr hnl hsv hJ h
theorem K_ldcS {ix i : Nat} {tx : String} (d : decode cc pc = .ok (.ldc ix, 2)) (ht : (y.cls, ix, i, tx) ∈ j_txt) (hq : pc + 2 = q) (h : J y cc nL ret fr lo em q ll (.inr (4, 0, 321 + i) :: st) M X) : J y cc nL ret fr lo em pc ll st M X := by
  subst hq
  intro r hr
  refine ⟨(h r hr).1, ?_⟩
  intro p l e s m args below meth c D aI aB H0 io Lv K0 mc ms H locs cells slots la cx hS hH hl hll hst hlo h1 h2
  have hi : i < 12 := by
    have : ∀ q ∈ j_txt, q.2.2.1 < 12 := by decide
    exact this _ ht
  have K := (h r hr).2 p l e s m args below meth c D aI aB H0 io Lv K0 mc ms H locs cells slots la cx hS hH hl hll (j_live_c (fun _ => (hS.2.2.2.2.2.2.2.2.1 i hi).1) hst) hlo h1 h2
  rw [List.map_cons, j_sv (by decide)] at K
  exact va_ldcS cx.1 cx.2.1 cx.2.2.2.2.2.1 (hS.2.2.2.2.2.2.2.2.2.1 _ ht) d K
end JR
