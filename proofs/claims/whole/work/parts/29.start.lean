/-! a whole family of new cells joins the world -/
def a_io (io : Nat → Nat) (b n : Nat) (ad : Nat → Nat) : Nat → Nat := fun x => if b ≤ x ∧ x < b + n then ad (x - b) else io x
def a_ok (D : va_G) (aI aB : ClassId) (io : Nat → Nat) (M : j_M) (b n : Nat) (kd : Nat → Nat × Nat) (H : Heap) (r : Nat) : Prop :=
  (∃ l, kd r = (1, l) ∧ H[io (b + r)]? = some (arrV aI l (fun j => .int (M (b + r) j)))) ∨
  (∃ l, kd r = (2, l) ∧ H[io (b + r)]? = some (arrV aB l (fun j => .int (M (b + r) j)))) ∨
  (∃ ci q, kd r = (10 + ci, 0) ∧ vwCl[ci]? = some q ∧ t_OB (io (b + r)) (D.1 ci) q.2.2 (D.2 ci) H (j_fv io M ci (b + r)) ∧ ∀ f, f < q.2.2 → ∀ g, j_fs ci f = some g → (g.2.2.2 = false ∨ M (b + r) f ≠ 0) → r + g.2.2.1 < n ∧ kd (r + g.2.2.1) = (g.1, g.2.1))
set_option maxHeartbeats 2000000 in
theorem j_H_add {D : va_G} {aI aB : ClassId} {H0 H H2 : Heap} {io : Nat → Nat} {Lv : j_L} {K0 M M2 : j_M} (hH : j_H D aI aB H0 io Lv K0 M H) {n b : Nat} {ad : Nat → Nat} {kd : Nat → Nat × Nat} (hsz : H.size ≤ H2.size) (hkeep : ∀ q, q < H.size → (∀ r, r < n → ad r ≠ q) → H2[q]? = H[q]?) (hadz : ∀ r, r < n → H0.size ≤ ad r) (hado : ∀ k l a, Lv k l a → (k < 3 ∨ 10 ≤ k) → ∀ r, r < n → ad r ≠ io a) (hinj : ∀ r r', r < n → r' < n → ad r = ad r' → r = r') (hfresh : ∀ k l a, Lv k l a → ¬ (b ≤ a ∧ a < b + n))
    (hM : ∀ x, ¬ (b ≤ x ∧ x < b + n) → M2 x = M x) (hid : ∀ r, r < n → b + r = 0 → (kd r).1 = 16) (hlate : j_late (l_Lv Lv b n kd) M2) (hkd : ∀ r, r < n → a_ok D aI aB (a_io io b n ad) M2 b n kd H2 r) :
    j_H D aI aB H0 (a_io io b n ad) (l_Lv Lv b n kd) K0 M2 H2 ∧ j_ext io Lv (a_io io b n ad) (l_Lv Lv b n kd) := by
  obtain ⟨g1, g2, g3, g4, g5, g6⟩ := hH
  have hio : ∀ k l a, Lv k l a → a_io io b n ad a = io a := fun k l a h => by
    unfold a_io; rw [if_neg (hfresh k l a h)]
  have hnew : ∀ a, b ≤ a → a < b + n → a_io io b n ad a = ad (a - b) := fun a h1 h2 => by
    unfold a_io; rw [if_pos ⟨h1, h2⟩]
  have hlt : ∀ k l a, Lv k l a → (k < 3 ∨ 10 ≤ k) → io a < H.size := fun k l a h hk => by
    have hk0 := (g6 k l a h).1
    obtain ⟨o1, o2, -, o4⟩ := g5 k l a h
    by_cases e1 : k = 1
    · exact (Array.getElem?_eq_some_iff.mp (o1 e1).1).1
    · by_cases e2 : k = 2
      · exact (Array.getElem?_eq_some_iff.mp (o2 e2).1).1
      · obtain ⟨r, -, ⟨cell, q1, -⟩, q2, -⟩ := o4 (k - 10) (by omega)
        exact (Array.getElem?_eq_some_iff.mp q1).1
  have hkk : ∀ r, r < n → ((kd r).1 = 1 ∨ (kd r).1 = 2 ∨ 10 ≤ (kd r).1) := fun r hr => by
    rcases hkd r hr with ⟨l, e, -⟩ | ⟨l, e, -⟩ | ⟨ci, q, e, -⟩
    · rw [e]; exact Or.inl rfl
    · rw [e]; exact Or.inr (Or.inl rfl)
    · rw [e]; exact Or.inr (Or.inr (by show 10 ≤ 10 + ci; omega))
  refine ⟨⟨by omega, fun q hq => ?_, ?_, ?_, ?_, hlate⟩, ?_, ?_⟩
  · rw [hkeep q (by omega) (fun r hr e => by have := hadz r hr; omega)]; exact g2 q hq
  · intro k l a k' l' a' h h' hk hk' e
    rcases h with h | ⟨x1, x2, x3⟩ <;> rcases h' with h' | ⟨x1', x2', x3'⟩
    · rw [hio _ _ _ h, hio _ _ _ h'] at e
      exact g3 k l a k' l' a' h h' hk hk' e
    · rw [hio _ _ _ h, hnew a' x1' x2'] at e
      exact absurd e.symm (hado k l a h hk _ (by omega))
    · rw [hio _ _ _ h', hnew a x1 x2] at e
      exact absurd e (hado k' l' a' h' hk' _ (by omega))
    · rw [hnew a x1 x2, hnew a' x1' x2'] at e
      have e9 := hinj (a - b) (a' - b) (by omega) (by omega) e
      have ea : a = a' := by omega
      subst ea
      have := x3.symm.trans x3'
      injection this with i1 i2
      exact ⟨rfl, i1, i2⟩
  · intro k l h
    rcases h with h | ⟨x1, x2, x3⟩
    · exact g4 k l h
    · have := hid (0 - b) (by omega) (by omega)
      rw [x3] at this
      exact this
  · intro k l a h
    rcases h with h | ⟨x1, x2, x3⟩
    · have hMa : M2 a = M a := hM a (hfresh k l a h)
      obtain ⟨o1, o2, o3, o4⟩ := g5 k l a h
      have hcell : (k < 3 ∨ 10 ≤ k) → H2[io a]? = H[io a]? := fun hk => hkeep _ (hlt k l a h hk) (hado k l a h hk)
      refine ⟨fun e => ?_, fun e => ?_, ?_, fun ci e => ?_⟩
      · rw [hio _ _ _ h, hcell (Or.inl (by omega)), hMa]; exact o1 e
      · rw [hio _ _ _ h, hcell (Or.inl (by omega)), hMa]; exact o2 e
      · rw [hio _ _ _ h, hMa]; exact o3
      · obtain ⟨r, q1, q2, q3, q4⟩ := o4 ci e
        refine ⟨r, q1, ?_, by rw [hio _ _ _ h]; exact q3, fun f hf g hg hh => Or.inl (q4 f hf g hg (by rw [hMa] at hh; exact hh))⟩
        rw [hio _ _ _ h]
        refine (q2.kept (hcell (Or.inr (by omega)))).to fun f hf => ?_
        unfold j_fv
        rw [hMa]
        cases hg : j_fs ci f with
        | none => rfl
        | some g =>
          simp only []
          by_cases hnl : g.2.2.2 = true ∧ M a f = 0
          · rw [if_pos hnl, if_pos hnl]
          · rw [if_neg hnl, if_neg hnl]
            have hlv := q4 f hf g hg (by
              by_cases h9 : g.2.2.2 = false
              · exact Or.inl h9
              · exact Or.inr fun h8 => hnl ⟨by simpa using h9, h8⟩)
            rw [hio _ _ _ hlv]
    · obtain ⟨r, rfl⟩ : ∃ r, a = b + r := ⟨a - b, by omega⟩
      rw [Nat.add_sub_cancel_left] at x3
      have hrn : r < n := by omega
      have hai : a_io io b n ad (b + r) = ad r := by rw [hnew _ x1 x2, Nat.add_sub_cancel_left]
      have hz := hadz r hrn
      rcases hkd r hrn with ⟨l', e1, e2⟩ | ⟨l', e1, e2⟩ | ⟨ci, q, e1, e2, e3, e4⟩
      · rw [e1] at x3
        cases x3
        exact ⟨fun _ => ⟨e2, by omega⟩, by omega, ⟨by omega, by omega⟩, fun ci => by omega⟩
      · rw [e1] at x3
        cases x3
        exact ⟨by omega, fun _ => ⟨e2, by omega⟩, ⟨by omega, by omega⟩, fun ci => by omega⟩
      · rw [e1] at x3
        cases x3
        refine ⟨by omega, by omega, ⟨by omega, by omega⟩, fun ci' e' => ?_⟩
        have : ci' = ci := by omega
        subst this
        refine ⟨q, e2, e3, by omega, fun f hf g hg hh => ?_⟩
        obtain ⟨f2, f3⟩ := e4 f hf g hg hh
        exact Or.inr ⟨by omega, by omega, by rw [show b + r + g.2.2.1 - b = r + g.2.2.1 by omega]; exact f3⟩
  · exact fun k l a h => ⟨Or.inl h, hio k l a h⟩
  · intro k l a h1 h2 h
    rcases h with h | ⟨x1, x2, x3⟩
    · exact h
    · have hk := hkk (a - b) (by omega)
      rw [x3] at hk
      simp only [] at hk
      omega
def x_off (r : Nat) : Nat := [0, 1, 14, 15, 16, 17, 18, 19, 20, 21, 2, 3, 4, 5, 6, 7, 8, 9, 10, 11, 12, 13, 22, 23, 24, 25, 26, 27, 28, 29, 30, 31, 32].getD r 0
def x_kd (r : Nat) : Nat × Nat := [(16, 0), (12, 0), (10, 0), (1, 112), (1, 256), (1, 48), (1, 48), (1, 6), (1, 6), (1, 6), (11, 0), (1, 100), (1, 49), (1, 49), (1, 49), (1, 360), (1, 6), (1, 6), (1, 6), (1, 6), (1, 6), (1, 6), (14, 0), (1, 1200), (1, 6), (1, 6), (1, 6), (1, 24), (13, 0), (1, 400), (1, 200), (1, 3), (1, 3)].getD r (0, 0)
def m_kd (r : Nat) : Nat × Nat := [(17, 0), (1, 7460), (1, 7460), (1, 7460), (1, 9), (2, 400), (1, 1600), (1, 3), (1, 600), (1, 3), (1, 3), (1, 182979), (1, 251), (1, 6200), (1, 6200), (1, 251)].getD r (0, 0)
/-- a new CountedTokens -/
def mx (M : j_M) : j_M := fun x j => if x = 0 then 0 else if x < 28 then ini_c 2 x j else if x = 28 then (if j = 6 then -1 else 0) else if x < 33 then 0 else M x j
/-- a new CountedTokensModel, ahead of its constructor's body -/
def md (M : j_M) : j_M := fun x j => if x = 200 then (if j = 22 then -1 else 0) else if 201 ≤ x ∧ x < 216 then 0 else M x j
theorem ff_7_0 : j_FF RX12 7 0 (.array .int) := ⟨RX12, TX12, 32, tyX12, rfl, tyX12_ok, nmX12, rfl, rfl, by decide +kernel⟩
theorem ff_7_1 : j_FF RX12 7 1 (.array .int) := ⟨RX12, TX12, 32, tyX12, rfl, tyX12_ok, nmX12, rfl, rfl, by decide +kernel⟩
theorem ff_7_2 : j_FF RX12 7 2 (.array .int) := ⟨RX12, TX12, 32, tyX12, rfl, tyX12_ok, nmX12, rfl, rfl, by decide +kernel⟩
theorem ff_7_4 : j_FF RX12 7 4 (.array .int) := ⟨RX12, TX12, 32, tyX12, rfl, tyX12_ok, nmX12, rfl, rfl, by decide +kernel⟩
theorem ff_7_5 : j_FF RX12 7 5 (.array .byte) := ⟨RX12, TX12, 32, tyX12, rfl, tyX12_ok, nmX12, rfl, rfl, by decide +kernel⟩
theorem ff_7_6 : j_FF RX12 7 6 (.array .int) := ⟨RX12, TX12, 32, tyX12, rfl, tyX12_ok, nmX12, rfl, rfl, by decide +kernel⟩
theorem ff_7_7 : j_FF RX12 7 7 (.array .int) := ⟨RX12, TX12, 32, tyX12, rfl, tyX12_ok, nmX12, rfl, rfl, by decide +kernel⟩
theorem ff_7_8 : j_FF RX12 7 8 (.array .int) := ⟨RX12, TX12, 32, tyX12, rfl, tyX12_ok, nmX12, rfl, rfl, by decide +kernel⟩
theorem ff_7_9 : j_FF RX12 7 9 (.array .int) := ⟨RX12, TX12, 32, tyX12, rfl, tyX12_ok, nmX12, rfl, rfl, by decide +kernel⟩
theorem ff_7_10 : j_FF RX12 7 10 (.array .int) := ⟨RX12, TX12, 32, tyX12, rfl, tyX12_ok, nmX12, rfl, rfl, by decide +kernel⟩
theorem ff_7_24 : j_FF RX12 7 24 (.array .int) := ⟨RX12, TX12, 32, tyX12, rfl, tyX12_ok, nmX12, rfl, rfl, by decide +kernel⟩
theorem ff_7_25 : j_FF RX12 7 25 (.array .int) := ⟨RX12, TX12, 32, tyX12, rfl, tyX12_ok, nmX12, rfl, rfl, by decide +kernel⟩
theorem ff_7_26 : j_FF RX12 7 26 (.array .int) := ⟨RX12, TX12, 32, tyX12, rfl, tyX12_ok, nmX12, rfl, rfl, by decide +kernel⟩
theorem ff_7_27 : j_FF RX12 7 27 (.array .int) := ⟨RX12, TX12, 32, tyX12, rfl, tyX12_ok, nmX12, rfl, rfl, by decide +kernel⟩
theorem ff_7_28 : j_FF RX12 7 28 (.array .int) := ⟨RX12, TX12, 32, tyX12, rfl, tyX12_ok, nmX12, rfl, rfl, by decide +kernel⟩
def m_Pc (D : va_G) (aI aB : ClassId) (H0 : Heap) (io : Nat → Nat) (Lv : j_L) (K0 M : j_M) (h0 : Nat) : Array Value → State → Prop := va_Pc [.ref h0] (fun U => j_S D aI aB H0 io Lv K0 U ∧ j_H D aI aB H0 io Lv K0 M U.heap ∧ (∃ c, U.heap[h0]? = some c ∧ n_at D 7 32 (vp_V [.null, .null, .null, .int 0, .null, .null, .null, .null, .null, .null, .null, .int 0, .int 0, .int 0, .int 0, .int 0, .int 0, .int 0, .int 0, .int 0, .int 0, .int 0, .int 0, .int 0, .null, .null, .null, .null, .null, .int 0, .int 0, .int 0]) c) ∧ H0.size ≤ h0)
def m_Q (D : va_G) (aI aB : ClassId) (H0 : Heap) (io : Nat → Nat) (Lv : j_L) (K0 M2 : j_M) (h0 : Nat) : Array Value → State → Outcome → State → Prop := fun _ _ o t => o = .returned none ∧ ∃ io' Lv', j_ext io Lv io' Lv' ∧ j_H D aI aB H0 io' Lv' K0 M2 t.heap ∧ Lv' 17 0 200 ∧ io' 200 = h0
theorem m_Pc_blind {D : va_G} {aI aB : ClassId} {H0 : Heap} {io : Nat → Nat} {Lv : j_L} {K0 M : j_M} {h0 : Nat} : FrameBlind (m_Pc D aI aB H0 io Lv K0 M h0) := fun a U g mk q => by
  obtain ⟨q0, q1, q2⟩ := q
  exact ⟨q0, q1.same rfl, q2⟩
theorem dX12_init_0 : decode cX12_init 0 = .ok (.aload_n 0, 1) := by decide +kernel
theorem dX12_init_1 : decode cX12_init 1 = .ok (.invokespecial 3, 3) := by decide +kernel
theorem dX12_init_4 : decode cX12_init 4 = .ok (.aload_n 0, 1) := by decide +kernel
theorem dX12_init_5 : decode cX12_init 5 = .ok (.sipush 7460, 3) := by decide +kernel
theorem dX12_init_8 : decode cX12_init 8 = .ok (.newarray .int, 2) := by decide +kernel
theorem dX12_init_10 : decode cX12_init 10 = .ok (.putfield 9, 3) := by decide +kernel
theorem dX12_init_13 : decode cX12_init 13 = .ok (.aload_n 0, 1) := by decide +kernel
theorem dX12_init_14 : decode cX12_init 14 = .ok (.sipush 7460, 3) := by decide +kernel
theorem dX12_init_17 : decode cX12_init 17 = .ok (.newarray .int, 2) := by decide +kernel
theorem dX12_init_19 : decode cX12_init 19 = .ok (.putfield 13, 3) := by decide +kernel
theorem dX12_init_22 : decode cX12_init 22 = .ok (.aload_n 0, 1) := by decide +kernel
theorem dX12_init_23 : decode cX12_init 23 = .ok (.sipush 7460, 3) := by decide +kernel
theorem dX12_init_26 : decode cX12_init 26 = .ok (.newarray .int, 2) := by decide +kernel
theorem dX12_init_28 : decode cX12_init 28 = .ok (.putfield 16, 3) := by decide +kernel
theorem dX12_init_31 : decode cX12_init 31 = .ok (.aload_n 0, 1) := by decide +kernel
theorem dX12_init_32 : decode cX12_init 32 = .ok (.bipush 9, 2) := by decide +kernel
theorem dX12_init_34 : decode cX12_init 34 = .ok (.newarray .int, 2) := by decide +kernel
theorem dX12_init_36 : decode cX12_init 36 = .ok (.putfield 19, 3) := by decide +kernel
theorem dX12_init_39 : decode cX12_init 39 = .ok (.aload_n 0, 1) := by decide +kernel
theorem dX12_init_40 : decode cX12_init 40 = .ok (.sipush 400, 3) := by decide +kernel
theorem dX12_init_43 : decode cX12_init 43 = .ok (.newarray .byte, 2) := by decide +kernel
theorem dX12_init_45 : decode cX12_init 45 = .ok (.putfield 22, 3) := by decide +kernel
theorem dX12_init_48 : decode cX12_init 48 = .ok (.aload_n 0, 1) := by decide +kernel
theorem dX12_init_49 : decode cX12_init 49 = .ok (.sipush 1600, 3) := by decide +kernel
theorem dX12_init_52 : decode cX12_init 52 = .ok (.newarray .int, 2) := by decide +kernel
theorem dX12_init_54 : decode cX12_init 54 = .ok (.putfield 26, 3) := by decide +kernel
theorem dX12_init_57 : decode cX12_init 57 = .ok (.aload_n 0, 1) := by decide +kernel
theorem dX12_init_58 : decode cX12_init 58 = .ok (.iconst 3, 1) := by decide +kernel
theorem dX12_init_59 : decode cX12_init 59 = .ok (.newarray .int, 2) := by decide +kernel
theorem dX12_init_61 : decode cX12_init 61 = .ok (.putfield 29, 3) := by decide +kernel
theorem dX12_init_64 : decode cX12_init 64 = .ok (.aload_n 0, 1) := by decide +kernel
theorem dX12_init_65 : decode cX12_init 65 = .ok (.sipush 600, 3) := by decide +kernel
theorem dX12_init_68 : decode cX12_init 68 = .ok (.newarray .int, 2) := by decide +kernel
theorem dX12_init_70 : decode cX12_init 70 = .ok (.putfield 32, 3) := by decide +kernel
theorem dX12_init_73 : decode cX12_init 73 = .ok (.aload_n 0, 1) := by decide +kernel
theorem dX12_init_74 : decode cX12_init 74 = .ok (.iconst 3, 1) := by decide +kernel
theorem dX12_init_75 : decode cX12_init 75 = .ok (.newarray .int, 2) := by decide +kernel
theorem dX12_init_77 : decode cX12_init 77 = .ok (.putfield 35, 3) := by decide +kernel
theorem dX12_init_80 : decode cX12_init 80 = .ok (.aload_n 0, 1) := by decide +kernel
theorem dX12_init_81 : decode cX12_init 81 = .ok (.iconst 3, 1) := by decide +kernel
theorem dX12_init_82 : decode cX12_init 82 = .ok (.newarray .int, 2) := by decide +kernel
theorem dX12_init_84 : decode cX12_init 84 = .ok (.putfield 38, 3) := by decide +kernel
theorem dX12_init_87 : decode cX12_init 87 = .ok (.aload_n 0, 1) := by decide +kernel
theorem dX12_init_88 : decode cX12_init 88 = .ok (.iconst (-1), 1) := by decide +kernel
theorem dX12_init_89 : decode cX12_init 89 = .ok (.putfield 41, 3) := by decide +kernel
theorem dX12_init_92 : decode cX12_init 92 = .ok (.aload_n 0, 1) := by decide +kernel
theorem dX12_init_93 : decode cX12_init 93 = .ok (.ldc 45, 2) := by decide +kernel
theorem dX12_init_95 : decode cX12_init 95 = .ok (.newarray .int, 2) := by decide +kernel
theorem dX12_init_97 : decode cX12_init 97 = .ok (.putfield 46, 3) := by decide +kernel
theorem dX12_init_100 : decode cX12_init 100 = .ok (.aload_n 0, 1) := by decide +kernel
theorem dX12_init_101 : decode cX12_init 101 = .ok (.sipush 251, 3) := by decide +kernel
theorem dX12_init_104 : decode cX12_init 104 = .ok (.newarray .int, 2) := by decide +kernel
theorem dX12_init_106 : decode cX12_init 106 = .ok (.putfield 49, 3) := by decide +kernel
theorem dX12_init_109 : decode cX12_init 109 = .ok (.aload_n 0, 1) := by decide +kernel
theorem dX12_init_110 : decode cX12_init 110 = .ok (.sipush 6200, 3) := by decide +kernel
theorem dX12_init_113 : decode cX12_init 113 = .ok (.newarray .int, 2) := by decide +kernel
theorem dX12_init_115 : decode cX12_init 115 = .ok (.putfield 52, 3) := by decide +kernel
theorem dX12_init_118 : decode cX12_init 118 = .ok (.aload_n 0, 1) := by decide +kernel
theorem dX12_init_119 : decode cX12_init 119 = .ok (.sipush 6200, 3) := by decide +kernel
theorem dX12_init_122 : decode cX12_init 122 = .ok (.newarray .int, 2) := by decide +kernel
theorem dX12_init_124 : decode cX12_init 124 = .ok (.putfield 55, 3) := by decide +kernel
theorem dX12_init_127 : decode cX12_init 127 = .ok (.aload_n 0, 1) := by decide +kernel
theorem dX12_init_128 : decode cX12_init 128 = .ok (.sipush 251, 3) := by decide +kernel
theorem dX12_init_131 : decode cX12_init 131 = .ok (.newarray .int, 2) := by decide +kernel
theorem dX12_init_133 : decode cX12_init 133 = .ok (.putfield 58, 3) := by decide +kernel
set_option maxRecDepth 100000 in
set_option maxHeartbeats 4000000 in
theorem c_X12_init (l : Launch) (D : va_G) (aI aB : ClassId) (H0 : Heap) (io : Nat → Nat) (Lv : j_L) (K0 M M2 : j_M) (h0 : Nat) (hf0 : ∀ k l a, Lv k l a → (k < 3 ∨ 10 ≤ k) → io a ≠ h0) (hfr : ∀ k l a, Lv k l a → ¬ (200 ≤ a ∧ a < 216)) (hrun : xX12_init (md M) = some M2) (hM20 : M2 0 = M 0) : Met l yX12_init (Cond.code yX12_init cX12_init 2 none :: j_ws) { frames := 1, cells := 15, slots := 220879, locals := 21 } (m_Pc D aI aB H0 io Lv K0 M h0) (m_Q D aI aB H0 io Lv K0 M2 h0) 15 220879 (fun q => H0.size ≤ q) := by
  refine Met.ofW (cc := cX12_init) (maxL := 2) (ret := none) (by decide +kernel) rfl ?_
  intro p e s m args below meth c s₁ B hml hv
  obtain ⟨rfl, hS, hH, hraw, hz⟩ := hv
  have hK : n_K D aI aB s := hS.1
  have hts := atoms_spec (ws := Cond.code yX12_init cX12_init 2 none :: j_ws) B.pre
  have cx : j_Cx yX12_init cX12_init 2 none p s m _ meth c := ⟨B.exec, B.bytes, B.returns, hml, fun w hw => hts w (List.mem_cons_of_mem _ hw), findClass_of_methodNamed B.named, B.notSynchronized⟩
  have hin : meth.name = "<init>" := (name_of_methodNamed B.named B.method).1
  have hl := lv_entry ([.ref h0]) (n := 2) (Nat.le_of_ble_eq_true rfl)
  rw [lg_entry_eq]
  generalize (lg_sl ([.ref h0]) ++ List.replicate (2 - (lg_sl ([.ref h0])).length) Slot.unset).toArray = la at hl ⊢
  have hl : lv_has la 2 [(0, .ref h0)] := hl
  have hB := hb.one hraw
  have hlo : ∀ q ∈ ([] : List Loc), H0.size ≤ q.base := fun q hq => by cases hq
  have hz9 : ∀ {k : Nat}, H0.size ≤ s.heap.size + k := fun {k} => by
    obtain ⟨c9, hc9, -⟩ := hraw
    have := (Array.getElem?_eq_some_iff.mp hc9).1
    omega
  refine lv_aload_n cx.1 cx.2.1 dX12_init_0 rfl (lv_at hl 0 rfl) ?_
  refine W.objInit cx.1 cx.2.1 cx.2.2.2.2.2.1 (cx.2.2.2.2.1 _ (j_in 1172 (by decide +kernel) (by decide +kernel))) (cx.2.2.2.2.1 _ w_oi) (cx.2.2.2.2.1 _ w_oc) rfl (by rw [hml]; exact hl.1) rfl dX12_init_1 (Nat.le_of_ble_eq_true rfl) (Nat.le_of_ble_eq_true rfl) ?_
  refine W.eq (g2 := F0 m 4 la []) rfl ?_
  refine lv_aload_n cx.1 cx.2.1 dX12_init_4 rfl (lv_at hl 0 rfl) ?_
  refine lv_sipush cx.1 cx.2.1 dX12_init_5 (v := 7460) rfl ?_
  refine N_newa cx hK w_ai (v := 7460) (k := 7460) (q := 10) (by decide) (by decide) (by decide) dX12_init_8 (Nat.le_of_ble_eq_true rfl) (Nat.le_of_ble_eq_true rfl) hB rfl (fun H hB => ?_)
  have hB : hb s.heap H 1 [(h0, n_at D 7 32 (vp_V [.null, .null, .null, .int 0, .null, .null, .null, .null, .null, .null, .null, .int 0, .int 0, .int 0, .int 0, .int 0, .int 0, .int 0, .int 0, .int 0, .int 0, .int 0, .int 0, .int 0, .null, .null, .null, .null, .null, .int 0, .int 0, .int 0])), (s.heap.size + 0, n_ar aI 7460 (fun _ => 0))] := hB
  refine W.eq (g2 := F0 m 10 la [.ref (s.heap.size + 0), .ref h0]) rfl ?_
  refine W.widen (k := 1) (n := 7460) (Nat.le_of_ble_eq_true rfl) (Nat.le_of_ble_eq_true rfl) ?_
  refine N_put cx hK (ci := 7) (N := 32) (V' := (vp_V [.ref (s.heap.size + 0), .null, .null, .int 0, .null, .null, .null, .null, .null, .null, .null, .int 0, .int 0, .int 0, .int 0, .int 0, .int 0, .int 0, .int 0, .int 0, .int 0, .int 0, .int 0, .int 0, .null, .null, .null, .null, .null, .int 0, .int 0, .int 0])) (q := 13) 0 0 dX12_init_10 fRX12_9 (Or.inr ⟨ff_7_0, hin⟩) rfl rfl rfl hB rfl hz hlo (n_setV (Nat.le_of_ble_eq_true rfl) _) rfl (fun H locs hB hlo => ?_)
  have hB : hb s.heap H 1 [(h0, n_at D 7 32 (vp_V [.ref (s.heap.size + 0), .null, .null, .int 0, .null, .null, .null, .null, .null, .null, .null, .int 0, .int 0, .int 0, .int 0, .int 0, .int 0, .int 0, .int 0, .int 0, .int 0, .int 0, .int 0, .int 0, .null, .null, .null, .null, .null, .int 0, .int 0, .int 0])), (s.heap.size + 0, n_ar aI 7460 (fun _ => 0))] := hB
  refine lv_aload_n cx.1 cx.2.1 dX12_init_13 rfl (lv_at hl 0 rfl) ?_
  refine lv_sipush cx.1 cx.2.1 dX12_init_14 (v := 7460) rfl ?_
  refine N_newa cx hK w_ai (v := 7460) (k := 7460) (q := 19) (by decide) (by decide) (by decide) dX12_init_17 (Nat.le_of_ble_eq_true rfl) (Nat.le_of_ble_eq_true rfl) hB rfl (fun H hB => ?_)
  have hB : hb s.heap H 2 [(h0, n_at D 7 32 (vp_V [.ref (s.heap.size + 0), .null, .null, .int 0, .null, .null, .null, .null, .null, .null, .null, .int 0, .int 0, .int 0, .int 0, .int 0, .int 0, .int 0, .int 0, .int 0, .int 0, .int 0, .int 0, .int 0, .null, .null, .null, .null, .null, .int 0, .int 0, .int 0])), (s.heap.size + 0, n_ar aI 7460 (fun _ => 0)), (s.heap.size + 1, n_ar aI 7460 (fun _ => 0))] := hB
  refine W.eq (g2 := F0 m 19 la [.ref (s.heap.size + 1), .ref h0]) rfl ?_
  refine W.widen (k := 2) (n := 14920) (Nat.le_of_ble_eq_true rfl) (Nat.le_of_ble_eq_true rfl) ?_
  refine N_put cx hK (ci := 7) (N := 32) (V' := (vp_V [.ref (s.heap.size + 0), .ref (s.heap.size + 1), .null, .int 0, .null, .null, .null, .null, .null, .null, .null, .int 0, .int 0, .int 0, .int 0, .int 0, .int 0, .int 0, .int 0, .int 0, .int 0, .int 0, .int 0, .int 0, .null, .null, .null, .null, .null, .int 0, .int 0, .int 0])) (q := 22) 1 0 dX12_init_19 fRX12_13 (Or.inr ⟨ff_7_1, hin⟩) rfl rfl rfl hB rfl hz hlo (n_setV (Nat.le_of_ble_eq_true rfl) _) rfl (fun H locs hB hlo => ?_)
  have hB : hb s.heap H 2 [(h0, n_at D 7 32 (vp_V [.ref (s.heap.size + 0), .ref (s.heap.size + 1), .null, .int 0, .null, .null, .null, .null, .null, .null, .null, .int 0, .int 0, .int 0, .int 0, .int 0, .int 0, .int 0, .int 0, .int 0, .int 0, .int 0, .int 0, .int 0, .null, .null, .null, .null, .null, .int 0, .int 0, .int 0])), (s.heap.size + 0, n_ar aI 7460 (fun _ => 0)), (s.heap.size + 1, n_ar aI 7460 (fun _ => 0))] := hB
  refine lv_aload_n cx.1 cx.2.1 dX12_init_22 rfl (lv_at hl 0 rfl) ?_
  refine lv_sipush cx.1 cx.2.1 dX12_init_23 (v := 7460) rfl ?_
  refine N_newa cx hK w_ai (v := 7460) (k := 7460) (q := 28) (by decide) (by decide) (by decide) dX12_init_26 (Nat.le_of_ble_eq_true rfl) (Nat.le_of_ble_eq_true rfl) hB rfl (fun H hB => ?_)
  have hB : hb s.heap H 3 [(h0, n_at D 7 32 (vp_V [.ref (s.heap.size + 0), .ref (s.heap.size + 1), .null, .int 0, .null, .null, .null, .null, .null, .null, .null, .int 0, .int 0, .int 0, .int 0, .int 0, .int 0, .int 0, .int 0, .int 0, .int 0, .int 0, .int 0, .int 0, .null, .null, .null, .null, .null, .int 0, .int 0, .int 0])), (s.heap.size + 0, n_ar aI 7460 (fun _ => 0)), (s.heap.size + 1, n_ar aI 7460 (fun _ => 0)), (s.heap.size + 2, n_ar aI 7460 (fun _ => 0))] := hB
  refine W.eq (g2 := F0 m 28 la [.ref (s.heap.size + 2), .ref h0]) rfl ?_
  refine W.widen (k := 3) (n := 22380) (Nat.le_of_ble_eq_true rfl) (Nat.le_of_ble_eq_true rfl) ?_
  refine N_put cx hK (ci := 7) (N := 32) (V' := (vp_V [.ref (s.heap.size + 0), .ref (s.heap.size + 1), .ref (s.heap.size + 2), .int 0, .null, .null, .null, .null, .null, .null, .null, .int 0, .int 0, .int 0, .int 0, .int 0, .int 0, .int 0, .int 0, .int 0, .int 0, .int 0, .int 0, .int 0, .null, .null, .null, .null, .null, .int 0, .int 0, .int 0])) (q := 31) 2 0 dX12_init_28 fRX12_16 (Or.inr ⟨ff_7_2, hin⟩) rfl rfl rfl hB rfl hz hlo (n_setV (Nat.le_of_ble_eq_true rfl) _) rfl (fun H locs hB hlo => ?_)
  have hB : hb s.heap H 3 [(h0, n_at D 7 32 (vp_V [.ref (s.heap.size + 0), .ref (s.heap.size + 1), .ref (s.heap.size + 2), .int 0, .null, .null, .null, .null, .null, .null, .null, .int 0, .int 0, .int 0, .int 0, .int 0, .int 0, .int 0, .int 0, .int 0, .int 0, .int 0, .int 0, .int 0, .null, .null, .null, .null, .null, .int 0, .int 0, .int 0])), (s.heap.size + 0, n_ar aI 7460 (fun _ => 0)), (s.heap.size + 1, n_ar aI 7460 (fun _ => 0)), (s.heap.size + 2, n_ar aI 7460 (fun _ => 0))] := hB
  refine lv_aload_n cx.1 cx.2.1 dX12_init_31 rfl (lv_at hl 0 rfl) ?_
  refine lv_bipush cx.1 cx.2.1 dX12_init_32 (v := 9) rfl ?_
  refine N_newa cx hK w_ai (v := 9) (k := 9) (q := 36) (by decide) (by decide) (by decide) dX12_init_34 (Nat.le_of_ble_eq_true rfl) (Nat.le_of_ble_eq_true rfl) hB rfl (fun H hB => ?_)
  have hB : hb s.heap H 4 [(h0, n_at D 7 32 (vp_V [.ref (s.heap.size + 0), .ref (s.heap.size + 1), .ref (s.heap.size + 2), .int 0, .null, .null, .null, .null, .null, .null, .null, .int 0, .int 0, .int 0, .int 0, .int 0, .int 0, .int 0, .int 0, .int 0, .int 0, .int 0, .int 0, .int 0, .null, .null, .null, .null, .null, .int 0, .int 0, .int 0])), (s.heap.size + 0, n_ar aI 7460 (fun _ => 0)), (s.heap.size + 1, n_ar aI 7460 (fun _ => 0)), (s.heap.size + 2, n_ar aI 7460 (fun _ => 0)), (s.heap.size + 3, n_ar aI 9 (fun _ => 0))] := hB
  refine W.eq (g2 := F0 m 36 la [.ref (s.heap.size + 3), .ref h0]) rfl ?_
  refine W.widen (k := 4) (n := 22389) (Nat.le_of_ble_eq_true rfl) (Nat.le_of_ble_eq_true rfl) ?_
  refine N_put cx hK (ci := 7) (N := 32) (V' := (vp_V [.ref (s.heap.size + 0), .ref (s.heap.size + 1), .ref (s.heap.size + 2), .int 0, .ref (s.heap.size + 3), .null, .null, .null, .null, .null, .null, .int 0, .int 0, .int 0, .int 0, .int 0, .int 0, .int 0, .int 0, .int 0, .int 0, .int 0, .int 0, .int 0, .null, .null, .null, .null, .null, .int 0, .int 0, .int 0])) (q := 39) 4 0 dX12_init_36 fRX12_19 (Or.inr ⟨ff_7_4, hin⟩) rfl rfl rfl hB rfl hz hlo (n_setV (Nat.le_of_ble_eq_true rfl) _) rfl (fun H locs hB hlo => ?_)
  have hB : hb s.heap H 4 [(h0, n_at D 7 32 (vp_V [.ref (s.heap.size + 0), .ref (s.heap.size + 1), .ref (s.heap.size + 2), .int 0, .ref (s.heap.size + 3), .null, .null, .null, .null, .null, .null, .int 0, .int 0, .int 0, .int 0, .int 0, .int 0, .int 0, .int 0, .int 0, .int 0, .int 0, .int 0, .int 0, .null, .null, .null, .null, .null, .int 0, .int 0, .int 0])), (s.heap.size + 0, n_ar aI 7460 (fun _ => 0)), (s.heap.size + 1, n_ar aI 7460 (fun _ => 0)), (s.heap.size + 2, n_ar aI 7460 (fun _ => 0)), (s.heap.size + 3, n_ar aI 9 (fun _ => 0))] := hB
  refine lv_aload_n cx.1 cx.2.1 dX12_init_39 rfl (lv_at hl 0 rfl) ?_
  refine lv_sipush cx.1 cx.2.1 dX12_init_40 (v := 400) rfl ?_
  refine N_newb cx hK w_ab (v := 400) (k := 400) (q := 45) (by decide) (by decide) (by decide) dX12_init_43 (Nat.le_of_ble_eq_true rfl) (Nat.le_of_ble_eq_true rfl) hB rfl (fun H hB => ?_)
  have hB : hb s.heap H 5 [(h0, n_at D 7 32 (vp_V [.ref (s.heap.size + 0), .ref (s.heap.size + 1), .ref (s.heap.size + 2), .int 0, .ref (s.heap.size + 3), .null, .null, .null, .null, .null, .null, .int 0, .int 0, .int 0, .int 0, .int 0, .int 0, .int 0, .int 0, .int 0, .int 0, .int 0, .int 0, .int 0, .null, .null, .null, .null, .null, .int 0, .int 0, .int 0])), (s.heap.size + 0, n_ar aI 7460 (fun _ => 0)), (s.heap.size + 1, n_ar aI 7460 (fun _ => 0)), (s.heap.size + 2, n_ar aI 7460 (fun _ => 0)), (s.heap.size + 3, n_ar aI 9 (fun _ => 0)), (s.heap.size + 4, n_ar aB 400 (fun _ => 0))] := hB
  refine W.eq (g2 := F0 m 45 la [.ref (s.heap.size + 4), .ref h0]) rfl ?_
  refine W.widen (k := 5) (n := 22789) (Nat.le_of_ble_eq_true rfl) (Nat.le_of_ble_eq_true rfl) ?_
  refine N_put cx hK (ci := 7) (N := 32) (V' := (vp_V [.ref (s.heap.size + 0), .ref (s.heap.size + 1), .ref (s.heap.size + 2), .int 0, .ref (s.heap.size + 3), .ref (s.heap.size + 4), .null, .null, .null, .null, .null, .int 0, .int 0, .int 0, .int 0, .int 0, .int 0, .int 0, .int 0, .int 0, .int 0, .int 0, .int 0, .int 0, .null, .null, .null, .null, .null, .int 0, .int 0, .int 0])) (q := 48) 5 0 dX12_init_45 fRX12_22 (Or.inr ⟨ff_7_5, hin⟩) rfl rfl rfl hB rfl hz hlo (n_setV (Nat.le_of_ble_eq_true rfl) _) rfl (fun H locs hB hlo => ?_)
  have hB : hb s.heap H 5 [(h0, n_at D 7 32 (vp_V [.ref (s.heap.size + 0), .ref (s.heap.size + 1), .ref (s.heap.size + 2), .int 0, .ref (s.heap.size + 3), .ref (s.heap.size + 4), .null, .null, .null, .null, .null, .int 0, .int 0, .int 0, .int 0, .int 0, .int 0, .int 0, .int 0, .int 0, .int 0, .int 0, .int 0, .int 0, .null, .null, .null, .null, .null, .int 0, .int 0, .int 0])), (s.heap.size + 0, n_ar aI 7460 (fun _ => 0)), (s.heap.size + 1, n_ar aI 7460 (fun _ => 0)), (s.heap.size + 2, n_ar aI 7460 (fun _ => 0)), (s.heap.size + 3, n_ar aI 9 (fun _ => 0)), (s.heap.size + 4, n_ar aB 400 (fun _ => 0))] := hB
  refine lv_aload_n cx.1 cx.2.1 dX12_init_48 rfl (lv_at hl 0 rfl) ?_
  refine lv_sipush cx.1 cx.2.1 dX12_init_49 (v := 1600) rfl ?_
  refine N_newa cx hK w_ai (v := 1600) (k := 1600) (q := 54) (by decide) (by decide) (by decide) dX12_init_52 (Nat.le_of_ble_eq_true rfl) (Nat.le_of_ble_eq_true rfl) hB rfl (fun H hB => ?_)
  have hB : hb s.heap H 6 [(h0, n_at D 7 32 (vp_V [.ref (s.heap.size + 0), .ref (s.heap.size + 1), .ref (s.heap.size + 2), .int 0, .ref (s.heap.size + 3), .ref (s.heap.size + 4), .null, .null, .null, .null, .null, .int 0, .int 0, .int 0, .int 0, .int 0, .int 0, .int 0, .int 0, .int 0, .int 0, .int 0, .int 0, .int 0, .null, .null, .null, .null, .null, .int 0, .int 0, .int 0])), (s.heap.size + 0, n_ar aI 7460 (fun _ => 0)), (s.heap.size + 1, n_ar aI 7460 (fun _ => 0)), (s.heap.size + 2, n_ar aI 7460 (fun _ => 0)), (s.heap.size + 3, n_ar aI 9 (fun _ => 0)), (s.heap.size + 4, n_ar aB 400 (fun _ => 0)), (s.heap.size + 5, n_ar aI 1600 (fun _ => 0))] := hB
  refine W.eq (g2 := F0 m 54 la [.ref (s.heap.size + 5), .ref h0]) rfl ?_
  refine W.widen (k := 6) (n := 24389) (Nat.le_of_ble_eq_true rfl) (Nat.le_of_ble_eq_true rfl) ?_
  refine N_put cx hK (ci := 7) (N := 32) (V' := (vp_V [.ref (s.heap.size + 0), .ref (s.heap.size + 1), .ref (s.heap.size + 2), .int 0, .ref (s.heap.size + 3), .ref (s.heap.size + 4), .ref (s.heap.size + 5), .null, .null, .null, .null, .int 0, .int 0, .int 0, .int 0, .int 0, .int 0, .int 0, .int 0, .int 0, .int 0, .int 0, .int 0, .int 0, .null, .null, .null, .null, .null, .int 0, .int 0, .int 0])) (q := 57) 6 0 dX12_init_54 fRX12_26 (Or.inr ⟨ff_7_6, hin⟩) rfl rfl rfl hB rfl hz hlo (n_setV (Nat.le_of_ble_eq_true rfl) _) rfl (fun H locs hB hlo => ?_)
  have hB : hb s.heap H 6 [(h0, n_at D 7 32 (vp_V [.ref (s.heap.size + 0), .ref (s.heap.size + 1), .ref (s.heap.size + 2), .int 0, .ref (s.heap.size + 3), .ref (s.heap.size + 4), .ref (s.heap.size + 5), .null, .null, .null, .null, .int 0, .int 0, .int 0, .int 0, .int 0, .int 0, .int 0, .int 0, .int 0, .int 0, .int 0, .int 0, .int 0, .null, .null, .null, .null, .null, .int 0, .int 0, .int 0])), (s.heap.size + 0, n_ar aI 7460 (fun _ => 0)), (s.heap.size + 1, n_ar aI 7460 (fun _ => 0)), (s.heap.size + 2, n_ar aI 7460 (fun _ => 0)), (s.heap.size + 3, n_ar aI 9 (fun _ => 0)), (s.heap.size + 4, n_ar aB 400 (fun _ => 0)), (s.heap.size + 5, n_ar aI 1600 (fun _ => 0))] := hB
  refine lv_aload_n cx.1 cx.2.1 dX12_init_57 rfl (lv_at hl 0 rfl) ?_
  refine lv_iconst cx.1 cx.2.1 dX12_init_58 (v := 3) rfl ?_
  refine N_newa cx hK w_ai (v := 3) (k := 3) (q := 61) (by decide) (by decide) (by decide) dX12_init_59 (Nat.le_of_ble_eq_true rfl) (Nat.le_of_ble_eq_true rfl) hB rfl (fun H hB => ?_)
  have hB : hb s.heap H 7 [(h0, n_at D 7 32 (vp_V [.ref (s.heap.size + 0), .ref (s.heap.size + 1), .ref (s.heap.size + 2), .int 0, .ref (s.heap.size + 3), .ref (s.heap.size + 4), .ref (s.heap.size + 5), .null, .null, .null, .null, .int 0, .int 0, .int 0, .int 0, .int 0, .int 0, .int 0, .int 0, .int 0, .int 0, .int 0, .int 0, .int 0, .null, .null, .null, .null, .null, .int 0, .int 0, .int 0])), (s.heap.size + 0, n_ar aI 7460 (fun _ => 0)), (s.heap.size + 1, n_ar aI 7460 (fun _ => 0)), (s.heap.size + 2, n_ar aI 7460 (fun _ => 0)), (s.heap.size + 3, n_ar aI 9 (fun _ => 0)), (s.heap.size + 4, n_ar aB 400 (fun _ => 0)), (s.heap.size + 5, n_ar aI 1600 (fun _ => 0)), (s.heap.size + 6, n_ar aI 3 (fun _ => 0))] := hB
  refine W.eq (g2 := F0 m 61 la [.ref (s.heap.size + 6), .ref h0]) rfl ?_
  refine W.widen (k := 7) (n := 24392) (Nat.le_of_ble_eq_true rfl) (Nat.le_of_ble_eq_true rfl) ?_
  refine N_put cx hK (ci := 7) (N := 32) (V' := (vp_V [.ref (s.heap.size + 0), .ref (s.heap.size + 1), .ref (s.heap.size + 2), .int 0, .ref (s.heap.size + 3), .ref (s.heap.size + 4), .ref (s.heap.size + 5), .ref (s.heap.size + 6), .null, .null, .null, .int 0, .int 0, .int 0, .int 0, .int 0, .int 0, .int 0, .int 0, .int 0, .int 0, .int 0, .int 0, .int 0, .null, .null, .null, .null, .null, .int 0, .int 0, .int 0])) (q := 64) 7 0 dX12_init_61 fRX12_29 (Or.inr ⟨ff_7_7, hin⟩) rfl rfl rfl hB rfl hz hlo (n_setV (Nat.le_of_ble_eq_true rfl) _) rfl (fun H locs hB hlo => ?_)
  have hB : hb s.heap H 7 [(h0, n_at D 7 32 (vp_V [.ref (s.heap.size + 0), .ref (s.heap.size + 1), .ref (s.heap.size + 2), .int 0, .ref (s.heap.size + 3), .ref (s.heap.size + 4), .ref (s.heap.size + 5), .ref (s.heap.size + 6), .null, .null, .null, .int 0, .int 0, .int 0, .int 0, .int 0, .int 0, .int 0, .int 0, .int 0, .int 0, .int 0, .int 0, .int 0, .null, .null, .null, .null, .null, .int 0, .int 0, .int 0])), (s.heap.size + 0, n_ar aI 7460 (fun _ => 0)), (s.heap.size + 1, n_ar aI 7460 (fun _ => 0)), (s.heap.size + 2, n_ar aI 7460 (fun _ => 0)), (s.heap.size + 3, n_ar aI 9 (fun _ => 0)), (s.heap.size + 4, n_ar aB 400 (fun _ => 0)), (s.heap.size + 5, n_ar aI 1600 (fun _ => 0)), (s.heap.size + 6, n_ar aI 3 (fun _ => 0))] := hB
  refine lv_aload_n cx.1 cx.2.1 dX12_init_64 rfl (lv_at hl 0 rfl) ?_
  refine lv_sipush cx.1 cx.2.1 dX12_init_65 (v := 600) rfl ?_
  refine N_newa cx hK w_ai (v := 600) (k := 600) (q := 70) (by decide) (by decide) (by decide) dX12_init_68 (Nat.le_of_ble_eq_true rfl) (Nat.le_of_ble_eq_true rfl) hB rfl (fun H hB => ?_)
  have hB : hb s.heap H 8 [(h0, n_at D 7 32 (vp_V [.ref (s.heap.size + 0), .ref (s.heap.size + 1), .ref (s.heap.size + 2), .int 0, .ref (s.heap.size + 3), .ref (s.heap.size + 4), .ref (s.heap.size + 5), .ref (s.heap.size + 6), .null, .null, .null, .int 0, .int 0, .int 0, .int 0, .int 0, .int 0, .int 0, .int 0, .int 0, .int 0, .int 0, .int 0, .int 0, .null, .null, .null, .null, .null, .int 0, .int 0, .int 0])), (s.heap.size + 0, n_ar aI 7460 (fun _ => 0)), (s.heap.size + 1, n_ar aI 7460 (fun _ => 0)), (s.heap.size + 2, n_ar aI 7460 (fun _ => 0)), (s.heap.size + 3, n_ar aI 9 (fun _ => 0)), (s.heap.size + 4, n_ar aB 400 (fun _ => 0)), (s.heap.size + 5, n_ar aI 1600 (fun _ => 0)), (s.heap.size + 6, n_ar aI 3 (fun _ => 0)), (s.heap.size + 7, n_ar aI 600 (fun _ => 0))] := hB
  refine W.eq (g2 := F0 m 70 la [.ref (s.heap.size + 7), .ref h0]) rfl ?_
  refine W.widen (k := 8) (n := 24992) (Nat.le_of_ble_eq_true rfl) (Nat.le_of_ble_eq_true rfl) ?_
  refine N_put cx hK (ci := 7) (N := 32) (V' := (vp_V [.ref (s.heap.size + 0), .ref (s.heap.size + 1), .ref (s.heap.size + 2), .int 0, .ref (s.heap.size + 3), .ref (s.heap.size + 4), .ref (s.heap.size + 5), .ref (s.heap.size + 6), .ref (s.heap.size + 7), .null, .null, .int 0, .int 0, .int 0, .int 0, .int 0, .int 0, .int 0, .int 0, .int 0, .int 0, .int 0, .int 0, .int 0, .null, .null, .null, .null, .null, .int 0, .int 0, .int 0])) (q := 73) 8 0 dX12_init_70 fRX12_32 (Or.inr ⟨ff_7_8, hin⟩) rfl rfl rfl hB rfl hz hlo (n_setV (Nat.le_of_ble_eq_true rfl) _) rfl (fun H locs hB hlo => ?_)
  have hB : hb s.heap H 8 [(h0, n_at D 7 32 (vp_V [.ref (s.heap.size + 0), .ref (s.heap.size + 1), .ref (s.heap.size + 2), .int 0, .ref (s.heap.size + 3), .ref (s.heap.size + 4), .ref (s.heap.size + 5), .ref (s.heap.size + 6), .ref (s.heap.size + 7), .null, .null, .int 0, .int 0, .int 0, .int 0, .int 0, .int 0, .int 0, .int 0, .int 0, .int 0, .int 0, .int 0, .int 0, .null, .null, .null, .null, .null, .int 0, .int 0, .int 0])), (s.heap.size + 0, n_ar aI 7460 (fun _ => 0)), (s.heap.size + 1, n_ar aI 7460 (fun _ => 0)), (s.heap.size + 2, n_ar aI 7460 (fun _ => 0)), (s.heap.size + 3, n_ar aI 9 (fun _ => 0)), (s.heap.size + 4, n_ar aB 400 (fun _ => 0)), (s.heap.size + 5, n_ar aI 1600 (fun _ => 0)), (s.heap.size + 6, n_ar aI 3 (fun _ => 0)), (s.heap.size + 7, n_ar aI 600 (fun _ => 0))] := hB
  refine lv_aload_n cx.1 cx.2.1 dX12_init_73 rfl (lv_at hl 0 rfl) ?_
  refine lv_iconst cx.1 cx.2.1 dX12_init_74 (v := 3) rfl ?_
  refine N_newa cx hK w_ai (v := 3) (k := 3) (q := 77) (by decide) (by decide) (by decide) dX12_init_75 (Nat.le_of_ble_eq_true rfl) (Nat.le_of_ble_eq_true rfl) hB rfl (fun H hB => ?_)
  have hB : hb s.heap H 9 [(h0, n_at D 7 32 (vp_V [.ref (s.heap.size + 0), .ref (s.heap.size + 1), .ref (s.heap.size + 2), .int 0, .ref (s.heap.size + 3), .ref (s.heap.size + 4), .ref (s.heap.size + 5), .ref (s.heap.size + 6), .ref (s.heap.size + 7), .null, .null, .int 0, .int 0, .int 0, .int 0, .int 0, .int 0, .int 0, .int 0, .int 0, .int 0, .int 0, .int 0, .int 0, .null, .null, .null, .null, .null, .int 0, .int 0, .int 0])), (s.heap.size + 0, n_ar aI 7460 (fun _ => 0)), (s.heap.size + 1, n_ar aI 7460 (fun _ => 0)), (s.heap.size + 2, n_ar aI 7460 (fun _ => 0)), (s.heap.size + 3, n_ar aI 9 (fun _ => 0)), (s.heap.size + 4, n_ar aB 400 (fun _ => 0)), (s.heap.size + 5, n_ar aI 1600 (fun _ => 0)), (s.heap.size + 6, n_ar aI 3 (fun _ => 0)), (s.heap.size + 7, n_ar aI 600 (fun _ => 0)), (s.heap.size + 8, n_ar aI 3 (fun _ => 0))] := hB
  refine W.eq (g2 := F0 m 77 la [.ref (s.heap.size + 8), .ref h0]) rfl ?_
  refine W.widen (k := 9) (n := 24995) (Nat.le_of_ble_eq_true rfl) (Nat.le_of_ble_eq_true rfl) ?_
  refine N_put cx hK (ci := 7) (N := 32) (V' := (vp_V [.ref (s.heap.size + 0), .ref (s.heap.size + 1), .ref (s.heap.size + 2), .int 0, .ref (s.heap.size + 3), .ref (s.heap.size + 4), .ref (s.heap.size + 5), .ref (s.heap.size + 6), .ref (s.heap.size + 7), .ref (s.heap.size + 8), .null, .int 0, .int 0, .int 0, .int 0, .int 0, .int 0, .int 0, .int 0, .int 0, .int 0, .int 0, .int 0, .int 0, .null, .null, .null, .null, .null, .int 0, .int 0, .int 0])) (q := 80) 9 0 dX12_init_77 fRX12_35 (Or.inr ⟨ff_7_9, hin⟩) rfl rfl rfl hB rfl hz hlo (n_setV (Nat.le_of_ble_eq_true rfl) _) rfl (fun H locs hB hlo => ?_)
  have hB : hb s.heap H 9 [(h0, n_at D 7 32 (vp_V [.ref (s.heap.size + 0), .ref (s.heap.size + 1), .ref (s.heap.size + 2), .int 0, .ref (s.heap.size + 3), .ref (s.heap.size + 4), .ref (s.heap.size + 5), .ref (s.heap.size + 6), .ref (s.heap.size + 7), .ref (s.heap.size + 8), .null, .int 0, .int 0, .int 0, .int 0, .int 0, .int 0, .int 0, .int 0, .int 0, .int 0, .int 0, .int 0, .int 0, .null, .null, .null, .null, .null, .int 0, .int 0, .int 0])), (s.heap.size + 0, n_ar aI 7460 (fun _ => 0)), (s.heap.size + 1, n_ar aI 7460 (fun _ => 0)), (s.heap.size + 2, n_ar aI 7460 (fun _ => 0)), (s.heap.size + 3, n_ar aI 9 (fun _ => 0)), (s.heap.size + 4, n_ar aB 400 (fun _ => 0)), (s.heap.size + 5, n_ar aI 1600 (fun _ => 0)), (s.heap.size + 6, n_ar aI 3 (fun _ => 0)), (s.heap.size + 7, n_ar aI 600 (fun _ => 0)), (s.heap.size + 8, n_ar aI 3 (fun _ => 0))] := hB
  refine lv_aload_n cx.1 cx.2.1 dX12_init_80 rfl (lv_at hl 0 rfl) ?_
  refine lv_iconst cx.1 cx.2.1 dX12_init_81 (v := 3) rfl ?_
  refine N_newa cx hK w_ai (v := 3) (k := 3) (q := 84) (by decide) (by decide) (by decide) dX12_init_82 (Nat.le_of_ble_eq_true rfl) (Nat.le_of_ble_eq_true rfl) hB rfl (fun H hB => ?_)
  have hB : hb s.heap H 10 [(h0, n_at D 7 32 (vp_V [.ref (s.heap.size + 0), .ref (s.heap.size + 1), .ref (s.heap.size + 2), .int 0, .ref (s.heap.size + 3), .ref (s.heap.size + 4), .ref (s.heap.size + 5), .ref (s.heap.size + 6), .ref (s.heap.size + 7), .ref (s.heap.size + 8), .null, .int 0, .int 0, .int 0, .int 0, .int 0, .int 0, .int 0, .int 0, .int 0, .int 0, .int 0, .int 0, .int 0, .null, .null, .null, .null, .null, .int 0, .int 0, .int 0])), (s.heap.size + 0, n_ar aI 7460 (fun _ => 0)), (s.heap.size + 1, n_ar aI 7460 (fun _ => 0)), (s.heap.size + 2, n_ar aI 7460 (fun _ => 0)), (s.heap.size + 3, n_ar aI 9 (fun _ => 0)), (s.heap.size + 4, n_ar aB 400 (fun _ => 0)), (s.heap.size + 5, n_ar aI 1600 (fun _ => 0)), (s.heap.size + 6, n_ar aI 3 (fun _ => 0)), (s.heap.size + 7, n_ar aI 600 (fun _ => 0)), (s.heap.size + 8, n_ar aI 3 (fun _ => 0)), (s.heap.size + 9, n_ar aI 3 (fun _ => 0))] := hB
  refine W.eq (g2 := F0 m 84 la [.ref (s.heap.size + 9), .ref h0]) rfl ?_
  refine W.widen (k := 10) (n := 24998) (Nat.le_of_ble_eq_true rfl) (Nat.le_of_ble_eq_true rfl) ?_
  refine N_put cx hK (ci := 7) (N := 32) (V' := (vp_V [.ref (s.heap.size + 0), .ref (s.heap.size + 1), .ref (s.heap.size + 2), .int 0, .ref (s.heap.size + 3), .ref (s.heap.size + 4), .ref (s.heap.size + 5), .ref (s.heap.size + 6), .ref (s.heap.size + 7), .ref (s.heap.size + 8), .ref (s.heap.size + 9), .int 0, .int 0, .int 0, .int 0, .int 0, .int 0, .int 0, .int 0, .int 0, .int 0, .int 0, .int 0, .int 0, .null, .null, .null, .null, .null, .int 0, .int 0, .int 0])) (q := 87) 10 0 dX12_init_84 fRX12_38 (Or.inr ⟨ff_7_10, hin⟩) rfl rfl rfl hB rfl hz hlo (n_setV (Nat.le_of_ble_eq_true rfl) _) rfl (fun H locs hB hlo => ?_)
  have hB : hb s.heap H 10 [(h0, n_at D 7 32 (vp_V [.ref (s.heap.size + 0), .ref (s.heap.size + 1), .ref (s.heap.size + 2), .int 0, .ref (s.heap.size + 3), .ref (s.heap.size + 4), .ref (s.heap.size + 5), .ref (s.heap.size + 6), .ref (s.heap.size + 7), .ref (s.heap.size + 8), .ref (s.heap.size + 9), .int 0, .int 0, .int 0, .int 0, .int 0, .int 0, .int 0, .int 0, .int 0, .int 0, .int 0, .int 0, .int 0, .null, .null, .null, .null, .null, .int 0, .int 0, .int 0])), (s.heap.size + 0, n_ar aI 7460 (fun _ => 0)), (s.heap.size + 1, n_ar aI 7460 (fun _ => 0)), (s.heap.size + 2, n_ar aI 7460 (fun _ => 0)), (s.heap.size + 3, n_ar aI 9 (fun _ => 0)), (s.heap.size + 4, n_ar aB 400 (fun _ => 0)), (s.heap.size + 5, n_ar aI 1600 (fun _ => 0)), (s.heap.size + 6, n_ar aI 3 (fun _ => 0)), (s.heap.size + 7, n_ar aI 600 (fun _ => 0)), (s.heap.size + 8, n_ar aI 3 (fun _ => 0)), (s.heap.size + 9, n_ar aI 3 (fun _ => 0))] := hB
  refine lv_aload_n cx.1 cx.2.1 dX12_init_87 rfl (lv_at hl 0 rfl) ?_
  refine lv_iconst cx.1 cx.2.1 dX12_init_88 (v := -1) rfl ?_
  refine N_put cx hK (ci := 7) (N := 32) (V' := (vp_V [.ref (s.heap.size + 0), .ref (s.heap.size + 1), .ref (s.heap.size + 2), .int 0, .ref (s.heap.size + 3), .ref (s.heap.size + 4), .ref (s.heap.size + 5), .ref (s.heap.size + 6), .ref (s.heap.size + 7), .ref (s.heap.size + 8), .ref (s.heap.size + 9), .int 0, .int 0, .int 0, .int 0, .int 0, .int 0, .int 0, .int 0, .int 0, .int 0, .int 0, .int (-1), .int 0, .null, .null, .null, .null, .null, .int 0, .int 0, .int 0])) (q := 92) 22 0 dX12_init_89 fRX12_41 (Or.inl fp_7_22) rfl rfl rfl hB rfl hz hlo (n_setV (Nat.le_of_ble_eq_true rfl) _) rfl (fun H locs hB hlo => ?_)
  have hB : hb s.heap H 10 [(h0, n_at D 7 32 (vp_V [.ref (s.heap.size + 0), .ref (s.heap.size + 1), .ref (s.heap.size + 2), .int 0, .ref (s.heap.size + 3), .ref (s.heap.size + 4), .ref (s.heap.size + 5), .ref (s.heap.size + 6), .ref (s.heap.size + 7), .ref (s.heap.size + 8), .ref (s.heap.size + 9), .int 0, .int 0, .int 0, .int 0, .int 0, .int 0, .int 0, .int 0, .int 0, .int 0, .int 0, .int (-1), .int 0, .null, .null, .null, .null, .null, .int 0, .int 0, .int 0])), (s.heap.size + 0, n_ar aI 7460 (fun _ => 0)), (s.heap.size + 1, n_ar aI 7460 (fun _ => 0)), (s.heap.size + 2, n_ar aI 7460 (fun _ => 0)), (s.heap.size + 3, n_ar aI 9 (fun _ => 0)), (s.heap.size + 4, n_ar aB 400 (fun _ => 0)), (s.heap.size + 5, n_ar aI 1600 (fun _ => 0)), (s.heap.size + 6, n_ar aI 3 (fun _ => 0)), (s.heap.size + 7, n_ar aI 600 (fun _ => 0)), (s.heap.size + 8, n_ar aI 3 (fun _ => 0)), (s.heap.size + 9, n_ar aI 3 (fun _ => 0))] := hB
  refine lv_aload_n cx.1 cx.2.1 dX12_init_92 rfl (lv_at hl 0 rfl) ?_
  refine lv_ldc (v := 182979) cx.1 cx.2.1 cx.2.2.2.2.2.1 (cx.2.2.2.2.1 _ (j_in 1173 (by decide +kernel) (by decide +kernel))) dX12_init_93 ?_
  refine N_newa cx hK w_ai (v := 182979) (k := 182979) (q := 97) (by decide) (by decide) (by decide) dX12_init_95 (Nat.le_of_ble_eq_true rfl) (Nat.le_of_ble_eq_true rfl) hB rfl (fun H hB => ?_)
  have hB : hb s.heap H 11 [(h0, n_at D 7 32 (vp_V [.ref (s.heap.size + 0), .ref (s.heap.size + 1), .ref (s.heap.size + 2), .int 0, .ref (s.heap.size + 3), .ref (s.heap.size + 4), .ref (s.heap.size + 5), .ref (s.heap.size + 6), .ref (s.heap.size + 7), .ref (s.heap.size + 8), .ref (s.heap.size + 9), .int 0, .int 0, .int 0, .int 0, .int 0, .int 0, .int 0, .int 0, .int 0, .int 0, .int 0, .int (-1), .int 0, .null, .null, .null, .null, .null, .int 0, .int 0, .int 0])), (s.heap.size + 0, n_ar aI 7460 (fun _ => 0)), (s.heap.size + 1, n_ar aI 7460 (fun _ => 0)), (s.heap.size + 2, n_ar aI 7460 (fun _ => 0)), (s.heap.size + 3, n_ar aI 9 (fun _ => 0)), (s.heap.size + 4, n_ar aB 400 (fun _ => 0)), (s.heap.size + 5, n_ar aI 1600 (fun _ => 0)), (s.heap.size + 6, n_ar aI 3 (fun _ => 0)), (s.heap.size + 7, n_ar aI 600 (fun _ => 0)), (s.heap.size + 8, n_ar aI 3 (fun _ => 0)), (s.heap.size + 9, n_ar aI 3 (fun _ => 0)), (s.heap.size + 10, n_ar aI 182979 (fun _ => 0))] := hB
  refine W.eq (g2 := F0 m 97 la [.ref (s.heap.size + 10), .ref h0]) rfl ?_
  refine W.widen (k := 11) (n := 207977) (Nat.le_of_ble_eq_true rfl) (Nat.le_of_ble_eq_true rfl) ?_
  refine N_put cx hK (ci := 7) (N := 32) (V' := (vp_V [.ref (s.heap.size + 0), .ref (s.heap.size + 1), .ref (s.heap.size + 2), .int 0, .ref (s.heap.size + 3), .ref (s.heap.size + 4), .ref (s.heap.size + 5), .ref (s.heap.size + 6), .ref (s.heap.size + 7), .ref (s.heap.size + 8), .ref (s.heap.size + 9), .int 0, .int 0, .int 0, .int 0, .int 0, .int 0, .int 0, .int 0, .int 0, .int 0, .int 0, .int (-1), .int 0, .ref (s.heap.size + 10), .null, .null, .null, .null, .int 0, .int 0, .int 0])) (q := 100) 24 0 dX12_init_97 fRX12_46 (Or.inr ⟨ff_7_24, hin⟩) rfl rfl rfl hB rfl hz hlo (n_setV (Nat.le_of_ble_eq_true rfl) _) rfl (fun H locs hB hlo => ?_)
  have hB : hb s.heap H 11 [(h0, n_at D 7 32 (vp_V [.ref (s.heap.size + 0), .ref (s.heap.size + 1), .ref (s.heap.size + 2), .int 0, .ref (s.heap.size + 3), .ref (s.heap.size + 4), .ref (s.heap.size + 5), .ref (s.heap.size + 6), .ref (s.heap.size + 7), .ref (s.heap.size + 8), .ref (s.heap.size + 9), .int 0, .int 0, .int 0, .int 0, .int 0, .int 0, .int 0, .int 0, .int 0, .int 0, .int 0, .int (-1), .int 0, .ref (s.heap.size + 10), .null, .null, .null, .null, .int 0, .int 0, .int 0])), (s.heap.size + 0, n_ar aI 7460 (fun _ => 0)), (s.heap.size + 1, n_ar aI 7460 (fun _ => 0)), (s.heap.size + 2, n_ar aI 7460 (fun _ => 0)), (s.heap.size + 3, n_ar aI 9 (fun _ => 0)), (s.heap.size + 4, n_ar aB 400 (fun _ => 0)), (s.heap.size + 5, n_ar aI 1600 (fun _ => 0)), (s.heap.size + 6, n_ar aI 3 (fun _ => 0)), (s.heap.size + 7, n_ar aI 600 (fun _ => 0)), (s.heap.size + 8, n_ar aI 3 (fun _ => 0)), (s.heap.size + 9, n_ar aI 3 (fun _ => 0)), (s.heap.size + 10, n_ar aI 182979 (fun _ => 0))] := hB
  refine lv_aload_n cx.1 cx.2.1 dX12_init_100 rfl (lv_at hl 0 rfl) ?_
  refine lv_sipush cx.1 cx.2.1 dX12_init_101 (v := 251) rfl ?_
  refine N_newa cx hK w_ai (v := 251) (k := 251) (q := 106) (by decide) (by decide) (by decide) dX12_init_104 (Nat.le_of_ble_eq_true rfl) (Nat.le_of_ble_eq_true rfl) hB rfl (fun H hB => ?_)
  have hB : hb s.heap H 12 [(h0, n_at D 7 32 (vp_V [.ref (s.heap.size + 0), .ref (s.heap.size + 1), .ref (s.heap.size + 2), .int 0, .ref (s.heap.size + 3), .ref (s.heap.size + 4), .ref (s.heap.size + 5), .ref (s.heap.size + 6), .ref (s.heap.size + 7), .ref (s.heap.size + 8), .ref (s.heap.size + 9), .int 0, .int 0, .int 0, .int 0, .int 0, .int 0, .int 0, .int 0, .int 0, .int 0, .int 0, .int (-1), .int 0, .ref (s.heap.size + 10), .null, .null, .null, .null, .int 0, .int 0, .int 0])), (s.heap.size + 0, n_ar aI 7460 (fun _ => 0)), (s.heap.size + 1, n_ar aI 7460 (fun _ => 0)), (s.heap.size + 2, n_ar aI 7460 (fun _ => 0)), (s.heap.size + 3, n_ar aI 9 (fun _ => 0)), (s.heap.size + 4, n_ar aB 400 (fun _ => 0)), (s.heap.size + 5, n_ar aI 1600 (fun _ => 0)), (s.heap.size + 6, n_ar aI 3 (fun _ => 0)), (s.heap.size + 7, n_ar aI 600 (fun _ => 0)), (s.heap.size + 8, n_ar aI 3 (fun _ => 0)), (s.heap.size + 9, n_ar aI 3 (fun _ => 0)), (s.heap.size + 10, n_ar aI 182979 (fun _ => 0)), (s.heap.size + 11, n_ar aI 251 (fun _ => 0))] := hB
  refine W.eq (g2 := F0 m 106 la [.ref (s.heap.size + 11), .ref h0]) rfl ?_
  refine W.widen (k := 12) (n := 208228) (Nat.le_of_ble_eq_true rfl) (Nat.le_of_ble_eq_true rfl) ?_
  refine N_put cx hK (ci := 7) (N := 32) (V' := (vp_V [.ref (s.heap.size + 0), .ref (s.heap.size + 1), .ref (s.heap.size + 2), .int 0, .ref (s.heap.size + 3), .ref (s.heap.size + 4), .ref (s.heap.size + 5), .ref (s.heap.size + 6), .ref (s.heap.size + 7), .ref (s.heap.size + 8), .ref (s.heap.size + 9), .int 0, .int 0, .int 0, .int 0, .int 0, .int 0, .int 0, .int 0, .int 0, .int 0, .int 0, .int (-1), .int 0, .ref (s.heap.size + 10), .ref (s.heap.size + 11), .null, .null, .null, .int 0, .int 0, .int 0])) (q := 109) 25 0 dX12_init_106 fRX12_49 (Or.inr ⟨ff_7_25, hin⟩) rfl rfl rfl hB rfl hz hlo (n_setV (Nat.le_of_ble_eq_true rfl) _) rfl (fun H locs hB hlo => ?_)
  have hB : hb s.heap H 12 [(h0, n_at D 7 32 (vp_V [.ref (s.heap.size + 0), .ref (s.heap.size + 1), .ref (s.heap.size + 2), .int 0, .ref (s.heap.size + 3), .ref (s.heap.size + 4), .ref (s.heap.size + 5), .ref (s.heap.size + 6), .ref (s.heap.size + 7), .ref (s.heap.size + 8), .ref (s.heap.size + 9), .int 0, .int 0, .int 0, .int 0, .int 0, .int 0, .int 0, .int 0, .int 0, .int 0, .int 0, .int (-1), .int 0, .ref (s.heap.size + 10), .ref (s.heap.size + 11), .null, .null, .null, .int 0, .int 0, .int 0])), (s.heap.size + 0, n_ar aI 7460 (fun _ => 0)), (s.heap.size + 1, n_ar aI 7460 (fun _ => 0)), (s.heap.size + 2, n_ar aI 7460 (fun _ => 0)), (s.heap.size + 3, n_ar aI 9 (fun _ => 0)), (s.heap.size + 4, n_ar aB 400 (fun _ => 0)), (s.heap.size + 5, n_ar aI 1600 (fun _ => 0)), (s.heap.size + 6, n_ar aI 3 (fun _ => 0)), (s.heap.size + 7, n_ar aI 600 (fun _ => 0)), (s.heap.size + 8, n_ar aI 3 (fun _ => 0)), (s.heap.size + 9, n_ar aI 3 (fun _ => 0)), (s.heap.size + 10, n_ar aI 182979 (fun _ => 0)), (s.heap.size + 11, n_ar aI 251 (fun _ => 0))] := hB
  refine lv_aload_n cx.1 cx.2.1 dX12_init_109 rfl (lv_at hl 0 rfl) ?_
  refine lv_sipush cx.1 cx.2.1 dX12_init_110 (v := 6200) rfl ?_
  refine N_newa cx hK w_ai (v := 6200) (k := 6200) (q := 115) (by decide) (by decide) (by decide) dX12_init_113 (Nat.le_of_ble_eq_true rfl) (Nat.le_of_ble_eq_true rfl) hB rfl (fun H hB => ?_)
  have hB : hb s.heap H 13 [(h0, n_at D 7 32 (vp_V [.ref (s.heap.size + 0), .ref (s.heap.size + 1), .ref (s.heap.size + 2), .int 0, .ref (s.heap.size + 3), .ref (s.heap.size + 4), .ref (s.heap.size + 5), .ref (s.heap.size + 6), .ref (s.heap.size + 7), .ref (s.heap.size + 8), .ref (s.heap.size + 9), .int 0, .int 0, .int 0, .int 0, .int 0, .int 0, .int 0, .int 0, .int 0, .int 0, .int 0, .int (-1), .int 0, .ref (s.heap.size + 10), .ref (s.heap.size + 11), .null, .null, .null, .int 0, .int 0, .int 0])), (s.heap.size + 0, n_ar aI 7460 (fun _ => 0)), (s.heap.size + 1, n_ar aI 7460 (fun _ => 0)), (s.heap.size + 2, n_ar aI 7460 (fun _ => 0)), (s.heap.size + 3, n_ar aI 9 (fun _ => 0)), (s.heap.size + 4, n_ar aB 400 (fun _ => 0)), (s.heap.size + 5, n_ar aI 1600 (fun _ => 0)), (s.heap.size + 6, n_ar aI 3 (fun _ => 0)), (s.heap.size + 7, n_ar aI 600 (fun _ => 0)), (s.heap.size + 8, n_ar aI 3 (fun _ => 0)), (s.heap.size + 9, n_ar aI 3 (fun _ => 0)), (s.heap.size + 10, n_ar aI 182979 (fun _ => 0)), (s.heap.size + 11, n_ar aI 251 (fun _ => 0)), (s.heap.size + 12, n_ar aI 6200 (fun _ => 0))] := hB
  refine W.eq (g2 := F0 m 115 la [.ref (s.heap.size + 12), .ref h0]) rfl ?_
  refine W.widen (k := 13) (n := 214428) (Nat.le_of_ble_eq_true rfl) (Nat.le_of_ble_eq_true rfl) ?_
  refine N_put cx hK (ci := 7) (N := 32) (V' := (vp_V [.ref (s.heap.size + 0), .ref (s.heap.size + 1), .ref (s.heap.size + 2), .int 0, .ref (s.heap.size + 3), .ref (s.heap.size + 4), .ref (s.heap.size + 5), .ref (s.heap.size + 6), .ref (s.heap.size + 7), .ref (s.heap.size + 8), .ref (s.heap.size + 9), .int 0, .int 0, .int 0, .int 0, .int 0, .int 0, .int 0, .int 0, .int 0, .int 0, .int 0, .int (-1), .int 0, .ref (s.heap.size + 10), .ref (s.heap.size + 11), .ref (s.heap.size + 12), .null, .null, .int 0, .int 0, .int 0])) (q := 118) 26 0 dX12_init_115 fRX12_52 (Or.inr ⟨ff_7_26, hin⟩) rfl rfl rfl hB rfl hz hlo (n_setV (Nat.le_of_ble_eq_true rfl) _) rfl (fun H locs hB hlo => ?_)
  have hB : hb s.heap H 13 [(h0, n_at D 7 32 (vp_V [.ref (s.heap.size + 0), .ref (s.heap.size + 1), .ref (s.heap.size + 2), .int 0, .ref (s.heap.size + 3), .ref (s.heap.size + 4), .ref (s.heap.size + 5), .ref (s.heap.size + 6), .ref (s.heap.size + 7), .ref (s.heap.size + 8), .ref (s.heap.size + 9), .int 0, .int 0, .int 0, .int 0, .int 0, .int 0, .int 0, .int 0, .int 0, .int 0, .int 0, .int (-1), .int 0, .ref (s.heap.size + 10), .ref (s.heap.size + 11), .ref (s.heap.size + 12), .null, .null, .int 0, .int 0, .int 0])), (s.heap.size + 0, n_ar aI 7460 (fun _ => 0)), (s.heap.size + 1, n_ar aI 7460 (fun _ => 0)), (s.heap.size + 2, n_ar aI 7460 (fun _ => 0)), (s.heap.size + 3, n_ar aI 9 (fun _ => 0)), (s.heap.size + 4, n_ar aB 400 (fun _ => 0)), (s.heap.size + 5, n_ar aI 1600 (fun _ => 0)), (s.heap.size + 6, n_ar aI 3 (fun _ => 0)), (s.heap.size + 7, n_ar aI 600 (fun _ => 0)), (s.heap.size + 8, n_ar aI 3 (fun _ => 0)), (s.heap.size + 9, n_ar aI 3 (fun _ => 0)), (s.heap.size + 10, n_ar aI 182979 (fun _ => 0)), (s.heap.size + 11, n_ar aI 251 (fun _ => 0)), (s.heap.size + 12, n_ar aI 6200 (fun _ => 0))] := hB
  refine lv_aload_n cx.1 cx.2.1 dX12_init_118 rfl (lv_at hl 0 rfl) ?_
  refine lv_sipush cx.1 cx.2.1 dX12_init_119 (v := 6200) rfl ?_
  refine N_newa cx hK w_ai (v := 6200) (k := 6200) (q := 124) (by decide) (by decide) (by decide) dX12_init_122 (Nat.le_of_ble_eq_true rfl) (Nat.le_of_ble_eq_true rfl) hB rfl (fun H hB => ?_)
  have hB : hb s.heap H 14 [(h0, n_at D 7 32 (vp_V [.ref (s.heap.size + 0), .ref (s.heap.size + 1), .ref (s.heap.size + 2), .int 0, .ref (s.heap.size + 3), .ref (s.heap.size + 4), .ref (s.heap.size + 5), .ref (s.heap.size + 6), .ref (s.heap.size + 7), .ref (s.heap.size + 8), .ref (s.heap.size + 9), .int 0, .int 0, .int 0, .int 0, .int 0, .int 0, .int 0, .int 0, .int 0, .int 0, .int 0, .int (-1), .int 0, .ref (s.heap.size + 10), .ref (s.heap.size + 11), .ref (s.heap.size + 12), .null, .null, .int 0, .int 0, .int 0])), (s.heap.size + 0, n_ar aI 7460 (fun _ => 0)), (s.heap.size + 1, n_ar aI 7460 (fun _ => 0)), (s.heap.size + 2, n_ar aI 7460 (fun _ => 0)), (s.heap.size + 3, n_ar aI 9 (fun _ => 0)), (s.heap.size + 4, n_ar aB 400 (fun _ => 0)), (s.heap.size + 5, n_ar aI 1600 (fun _ => 0)), (s.heap.size + 6, n_ar aI 3 (fun _ => 0)), (s.heap.size + 7, n_ar aI 600 (fun _ => 0)), (s.heap.size + 8, n_ar aI 3 (fun _ => 0)), (s.heap.size + 9, n_ar aI 3 (fun _ => 0)), (s.heap.size + 10, n_ar aI 182979 (fun _ => 0)), (s.heap.size + 11, n_ar aI 251 (fun _ => 0)), (s.heap.size + 12, n_ar aI 6200 (fun _ => 0)), (s.heap.size + 13, n_ar aI 6200 (fun _ => 0))] := hB
  refine W.eq (g2 := F0 m 124 la [.ref (s.heap.size + 13), .ref h0]) rfl ?_
  refine W.widen (k := 14) (n := 220628) (Nat.le_of_ble_eq_true rfl) (Nat.le_of_ble_eq_true rfl) ?_
  refine N_put cx hK (ci := 7) (N := 32) (V' := (vp_V [.ref (s.heap.size + 0), .ref (s.heap.size + 1), .ref (s.heap.size + 2), .int 0, .ref (s.heap.size + 3), .ref (s.heap.size + 4), .ref (s.heap.size + 5), .ref (s.heap.size + 6), .ref (s.heap.size + 7), .ref (s.heap.size + 8), .ref (s.heap.size + 9), .int 0, .int 0, .int 0, .int 0, .int 0, .int 0, .int 0, .int 0, .int 0, .int 0, .int 0, .int (-1), .int 0, .ref (s.heap.size + 10), .ref (s.heap.size + 11), .ref (s.heap.size + 12), .ref (s.heap.size + 13), .null, .int 0, .int 0, .int 0])) (q := 127) 27 0 dX12_init_124 fRX12_55 (Or.inr ⟨ff_7_27, hin⟩) rfl rfl rfl hB rfl hz hlo (n_setV (Nat.le_of_ble_eq_true rfl) _) rfl (fun H locs hB hlo => ?_)
  have hB : hb s.heap H 14 [(h0, n_at D 7 32 (vp_V [.ref (s.heap.size + 0), .ref (s.heap.size + 1), .ref (s.heap.size + 2), .int 0, .ref (s.heap.size + 3), .ref (s.heap.size + 4), .ref (s.heap.size + 5), .ref (s.heap.size + 6), .ref (s.heap.size + 7), .ref (s.heap.size + 8), .ref (s.heap.size + 9), .int 0, .int 0, .int 0, .int 0, .int 0, .int 0, .int 0, .int 0, .int 0, .int 0, .int 0, .int (-1), .int 0, .ref (s.heap.size + 10), .ref (s.heap.size + 11), .ref (s.heap.size + 12), .ref (s.heap.size + 13), .null, .int 0, .int 0, .int 0])), (s.heap.size + 0, n_ar aI 7460 (fun _ => 0)), (s.heap.size + 1, n_ar aI 7460 (fun _ => 0)), (s.heap.size + 2, n_ar aI 7460 (fun _ => 0)), (s.heap.size + 3, n_ar aI 9 (fun _ => 0)), (s.heap.size + 4, n_ar aB 400 (fun _ => 0)), (s.heap.size + 5, n_ar aI 1600 (fun _ => 0)), (s.heap.size + 6, n_ar aI 3 (fun _ => 0)), (s.heap.size + 7, n_ar aI 600 (fun _ => 0)), (s.heap.size + 8, n_ar aI 3 (fun _ => 0)), (s.heap.size + 9, n_ar aI 3 (fun _ => 0)), (s.heap.size + 10, n_ar aI 182979 (fun _ => 0)), (s.heap.size + 11, n_ar aI 251 (fun _ => 0)), (s.heap.size + 12, n_ar aI 6200 (fun _ => 0)), (s.heap.size + 13, n_ar aI 6200 (fun _ => 0))] := hB
  refine lv_aload_n cx.1 cx.2.1 dX12_init_127 rfl (lv_at hl 0 rfl) ?_
  refine lv_sipush cx.1 cx.2.1 dX12_init_128 (v := 251) rfl ?_
  refine N_newa cx hK w_ai (v := 251) (k := 251) (q := 133) (by decide) (by decide) (by decide) dX12_init_131 (Nat.le_of_ble_eq_true rfl) (Nat.le_of_ble_eq_true rfl) hB rfl (fun H hB => ?_)
  have hB : hb s.heap H 15 [(h0, n_at D 7 32 (vp_V [.ref (s.heap.size + 0), .ref (s.heap.size + 1), .ref (s.heap.size + 2), .int 0, .ref (s.heap.size + 3), .ref (s.heap.size + 4), .ref (s.heap.size + 5), .ref (s.heap.size + 6), .ref (s.heap.size + 7), .ref (s.heap.size + 8), .ref (s.heap.size + 9), .int 0, .int 0, .int 0, .int 0, .int 0, .int 0, .int 0, .int 0, .int 0, .int 0, .int 0, .int (-1), .int 0, .ref (s.heap.size + 10), .ref (s.heap.size + 11), .ref (s.heap.size + 12), .ref (s.heap.size + 13), .null, .int 0, .int 0, .int 0])), (s.heap.size + 0, n_ar aI 7460 (fun _ => 0)), (s.heap.size + 1, n_ar aI 7460 (fun _ => 0)), (s.heap.size + 2, n_ar aI 7460 (fun _ => 0)), (s.heap.size + 3, n_ar aI 9 (fun _ => 0)), (s.heap.size + 4, n_ar aB 400 (fun _ => 0)), (s.heap.size + 5, n_ar aI 1600 (fun _ => 0)), (s.heap.size + 6, n_ar aI 3 (fun _ => 0)), (s.heap.size + 7, n_ar aI 600 (fun _ => 0)), (s.heap.size + 8, n_ar aI 3 (fun _ => 0)), (s.heap.size + 9, n_ar aI 3 (fun _ => 0)), (s.heap.size + 10, n_ar aI 182979 (fun _ => 0)), (s.heap.size + 11, n_ar aI 251 (fun _ => 0)), (s.heap.size + 12, n_ar aI 6200 (fun _ => 0)), (s.heap.size + 13, n_ar aI 6200 (fun _ => 0)), (s.heap.size + 14, n_ar aI 251 (fun _ => 0))] := hB
  refine W.eq (g2 := F0 m 133 la [.ref (s.heap.size + 14), .ref h0]) rfl ?_
  refine W.widen (k := 15) (n := 220879) (Nat.le_of_ble_eq_true rfl) (Nat.le_of_ble_eq_true rfl) ?_
  refine N_put cx hK (ci := 7) (N := 32) (V' := (vp_V [.ref (s.heap.size + 0), .ref (s.heap.size + 1), .ref (s.heap.size + 2), .int 0, .ref (s.heap.size + 3), .ref (s.heap.size + 4), .ref (s.heap.size + 5), .ref (s.heap.size + 6), .ref (s.heap.size + 7), .ref (s.heap.size + 8), .ref (s.heap.size + 9), .int 0, .int 0, .int 0, .int 0, .int 0, .int 0, .int 0, .int 0, .int 0, .int 0, .int 0, .int (-1), .int 0, .ref (s.heap.size + 10), .ref (s.heap.size + 11), .ref (s.heap.size + 12), .ref (s.heap.size + 13), .ref (s.heap.size + 14), .int 0, .int 0, .int 0])) (q := 136) 28 0 dX12_init_133 fRX12_58 (Or.inr ⟨ff_7_28, hin⟩) rfl rfl rfl hB rfl hz hlo (n_setV (Nat.le_of_ble_eq_true rfl) _) rfl (fun H locs hB hlo => ?_)
  have hB : hb s.heap H 15 [(h0, n_at D 7 32 (vp_V [.ref (s.heap.size + 0), .ref (s.heap.size + 1), .ref (s.heap.size + 2), .int 0, .ref (s.heap.size + 3), .ref (s.heap.size + 4), .ref (s.heap.size + 5), .ref (s.heap.size + 6), .ref (s.heap.size + 7), .ref (s.heap.size + 8), .ref (s.heap.size + 9), .int 0, .int 0, .int 0, .int 0, .int 0, .int 0, .int 0, .int 0, .int 0, .int 0, .int 0, .int (-1), .int 0, .ref (s.heap.size + 10), .ref (s.heap.size + 11), .ref (s.heap.size + 12), .ref (s.heap.size + 13), .ref (s.heap.size + 14), .int 0, .int 0, .int 0])), (s.heap.size + 0, n_ar aI 7460 (fun _ => 0)), (s.heap.size + 1, n_ar aI 7460 (fun _ => 0)), (s.heap.size + 2, n_ar aI 7460 (fun _ => 0)), (s.heap.size + 3, n_ar aI 9 (fun _ => 0)), (s.heap.size + 4, n_ar aB 400 (fun _ => 0)), (s.heap.size + 5, n_ar aI 1600 (fun _ => 0)), (s.heap.size + 6, n_ar aI 3 (fun _ => 0)), (s.heap.size + 7, n_ar aI 600 (fun _ => 0)), (s.heap.size + 8, n_ar aI 3 (fun _ => 0)), (s.heap.size + 9, n_ar aI 3 (fun _ => 0)), (s.heap.size + 10, n_ar aI 182979 (fun _ => 0)), (s.heap.size + 11, n_ar aI 251 (fun _ => 0)), (s.heap.size + 12, n_ar aI 6200 (fun _ => 0)), (s.heap.size + 13, n_ar aI 6200 (fun _ => 0)), (s.heap.size + 14, n_ar aI 251 (fun _ => 0))] := hB
  have hsz0 : h0 < s.heap.size := by
    obtain ⟨c9, hc9, -⟩ := hraw
    exact (Array.getElem?_eq_some_iff.mp hc9).1
  have hlive : ∀ k l a, Lv k l a → (k < 3 ∨ 10 ≤ k) → io a < s.heap.size := fun k l a h hk => by
    have hk0 := (hH.2.2.2.2.2 k l a h).1
    obtain ⟨o1, o2, -, o4⟩ := hH.2.2.2.2.1 k l a h
    by_cases e1 : k = 1
    · exact (Array.getElem?_eq_some_iff.mp (o1 e1).1).1
    · by_cases e2 : k = 2
      · exact (Array.getElem?_eq_some_iff.mp (o2 e2).1).1
      · obtain ⟨r, -, ⟨cell, q1, -⟩, q2, -⟩ := o4 (k - 10) (by omega)
        exact (Array.getElem?_eq_some_iff.mp q1).1
  have hkeep : ∀ q, q < s.heap.size → (∀ r, r < 16 → (fun r => if r = 0 then h0 else s.heap.size + (r - 1)) r ≠ q) → H[q]? = s.heap[q]? := fun q hq hq0 => hB.2.1 q hq fun x hx => by
    have h00 := hq0 0 (by decide)
    simp only [if_true] at h00
    simp only [List.mem_cons, List.not_mem_nil, or_false] at hx
    rcases hx with rfl | rfl | rfl | rfl | rfl | rfl | rfl | rfl | rfl | rfl | rfl | rfl | rfl | rfl | rfl | rfl <;> simp only [] <;> omega
  have hkd : ∀ r, r < 16 → a_ok D aI aB (a_io io 200 16 (fun r => if r = 0 then h0 else s.heap.size + (r - 1))) (md M) 200 16 m_kd H r := fun r hr => by
    match r, hr with
    | 0, _ =>
      refine Or.inr (Or.inr ⟨7, _, rfl, rfl, l_obj (i := 0) hB rfl (fun k hk => by match k, hk with | 0, _ => rfl | 1, _ => rfl | 2, _ => rfl | 3, _ => rfl | 4, _ => rfl | 5, _ => rfl | 6, _ => rfl | 7, _ => rfl | 8, _ => rfl | 9, _ => rfl | 10, _ => rfl | 11, _ => rfl | 12, _ => rfl | 13, _ => rfl | 14, _ => rfl | 15, _ => rfl | 16, _ => rfl | 17, _ => rfl | 18, _ => rfl | 19, _ => rfl | 20, _ => rfl | 21, _ => rfl | 22, _ => rfl | 23, _ => rfl | 24, _ => rfl | 25, _ => rfl | 26, _ => rfl | 27, _ => rfl | 28, _ => rfl | 29, _ => rfl | 30, _ => rfl | 31, _ => rfl | k + 32, hk => exact absurd hk (by show ¬ k + 32 < 32; omega)), fun f hf => ?_⟩)
      match f, hf with
      | 0, _ => intro gg hg hh; cases hg; exact ⟨by decide, rfl⟩
      | 1, _ => intro gg hg hh; cases hg; exact ⟨by decide, rfl⟩
      | 2, _ => intro gg hg hh; cases hg; exact ⟨by decide, rfl⟩
      | 3, _ => intro gg hg hh; cases hg
      | 4, _ => intro gg hg hh; cases hg; exact ⟨by decide, rfl⟩
      | 5, _ => intro gg hg hh; cases hg; exact ⟨by decide, rfl⟩
      | 6, _ => intro gg hg hh; cases hg; exact ⟨by decide, rfl⟩
      | 7, _ => intro gg hg hh; cases hg; exact ⟨by decide, rfl⟩
      | 8, _ => intro gg hg hh; cases hg; exact ⟨by decide, rfl⟩
      | 9, _ => intro gg hg hh; cases hg; exact ⟨by decide, rfl⟩
      | 10, _ => intro gg hg hh; cases hg; exact ⟨by decide, rfl⟩
      | 11, _ => intro gg hg hh; cases hg
      | 12, _ => intro gg hg hh; cases hg
      | 13, _ => intro gg hg hh; cases hg
      | 14, _ => intro gg hg hh; cases hg
      | 15, _ => intro gg hg hh; cases hg
      | 16, _ => intro gg hg hh; cases hg
      | 17, _ => intro gg hg hh; cases hg
      | 18, _ => intro gg hg hh; cases hg
      | 19, _ => intro gg hg hh; cases hg
      | 20, _ => intro gg hg hh; cases hg
      | 21, _ => intro gg hg hh; cases hg
      | 22, _ => intro gg hg hh; cases hg
      | 23, _ => intro gg hg hh; cases hg
      | 24, _ => intro gg hg hh; cases hg; exact ⟨by decide, rfl⟩
      | 25, _ => intro gg hg hh; cases hg; exact ⟨by decide, rfl⟩
      | 26, _ => intro gg hg hh; cases hg; exact ⟨by decide, rfl⟩
      | 27, _ => intro gg hg hh; cases hg; exact ⟨by decide, rfl⟩
      | 28, _ => intro gg hg hh; cases hg; exact ⟨by decide, rfl⟩
      | 29, _ => intro gg hg hh; cases hg
      | 30, _ => intro gg hg hh; cases hg
      | 31, _ => intro gg hg hh; cases hg
      | f + 32, hf => exact absurd hf (by show ¬ f + 32 < 32; omega)
    | 1, _ => exact Or.inl ⟨7460, rfl, l_cell (i := 1) hB rfl⟩
    | 2, _ => exact Or.inl ⟨7460, rfl, l_cell (i := 2) hB rfl⟩
    | 3, _ => exact Or.inl ⟨7460, rfl, l_cell (i := 3) hB rfl⟩
    | 4, _ => exact Or.inl ⟨9, rfl, l_cell (i := 4) hB rfl⟩
    | 5, _ => exact Or.inr (Or.inl ⟨400, rfl, l_cell (i := 5) hB rfl⟩)
    | 6, _ => exact Or.inl ⟨1600, rfl, l_cell (i := 6) hB rfl⟩
    | 7, _ => exact Or.inl ⟨3, rfl, l_cell (i := 7) hB rfl⟩
    | 8, _ => exact Or.inl ⟨600, rfl, l_cell (i := 8) hB rfl⟩
    | 9, _ => exact Or.inl ⟨3, rfl, l_cell (i := 9) hB rfl⟩
    | 10, _ => exact Or.inl ⟨3, rfl, l_cell (i := 10) hB rfl⟩
    | 11, _ => exact Or.inl ⟨182979, rfl, l_cell (i := 11) hB rfl⟩
    | 12, _ => exact Or.inl ⟨251, rfl, l_cell (i := 12) hB rfl⟩
    | 13, _ => exact Or.inl ⟨6200, rfl, l_cell (i := 13) hB rfl⟩
    | 14, _ => exact Or.inl ⟨6200, rfl, l_cell (i := 14) hB rfl⟩
    | 15, _ => exact Or.inl ⟨251, rfl, l_cell (i := 15) hB rfl⟩
    | r + 16, hr => exact absurd hr (by omega)
  obtain ⟨hH2, hx⟩ := j_H_add (M2 := md M) (kd := m_kd) hH (by have := hB.1; omega) hkeep (fun r hr => by by_cases e : r = 0 <;> simp only [e, if_true, if_false] <;> omega) (fun k l a h hk r hr => by
    have h1 := hf0 k l a h hk
    have h2 := hlive k l a h hk
    by_cases e : r = 0 <;> simp only [e, if_true, if_false] <;> omega) (fun r r' hr hr' e => by
    by_cases e1 : r = 0 <;> by_cases e2 : r' = 0 <;> simp only [e1, e2, if_true, if_false] at e <;> omega) hfr (fun x hx => by funext j; unfold md; rw [if_neg (by omega), if_neg (by omega)]) (fun r _ h => by omega) (fun k l a h => by
    have e0 : ∀ j, md M 0 j = M 0 j := fun j => rfl
    simp only [e0]
    rcases h with h | ⟨x1, x2, x3⟩
    · exact hH.2.2.2.2.2 k l a h
    · refine ⟨?_, by omega, by omega, by omega⟩
      obtain ⟨r, rfl⟩ : ∃ r, a = 200 + r := ⟨a - 200, by omega⟩
      rw [Nat.add_sub_cancel_left] at x3
      have : ∀ r, r < 16 → (m_kd r).1 ≠ 0 := by decide +kernel
      have := this r (by omega)
      rw [x3] at this
      exact this) hkd
  have hJ := tX12_init (md M) M2 hrun
  have hcc : j_cc M2 = j_cc (md M) := by
    have e0 : ∀ j, md M 0 j = M 0 j := fun j => rfl
    simp [j_cc, hM20, e0]
  have hcs : j_cs M2 = j_cs (md M) := by
    have e0 : ∀ j, md M 0 j = M 0 j := fun j => rfl
    simp [j_cs, hM20, e0]
  have h17 : (l_Lv Lv 200 16 m_kd) 17 0 200 := Or.inr ⟨by omega, by omega, rfl⟩
  have hlm : lv_has la 2 (j_lm (a_io io 200 16 (fun r => if r = 0 then h0 else s.heap.size + (r - 1))) [(0, .inr (17, 0, 200))]) := hl
  refine fun TT hT XX => ?_
  obtain ⟨t, a1, oo, b1, b2, ⟨io2, Lv2, x1, x2, x3, x4⟩, b3⟩ := hJ.2 p l e s m _ below meth c D aI aB H0 _ _ K0 15 220879 H locs 15 220879 la cx (hS.ext hx) hH2 hlm (fun q hq => by rw [List.mem_singleton.mp hq]; exact fun _ => h17) (fun x hx => by cases hx) hlo (by show 15 + j_cc M2 ≤ 15 + _; omega) (by show 220879 + j_cs M2 ≤ 220879 + _; omega) TT hT XX
  exact ⟨t, a1, oo, b1, b2, ⟨x4, io2, Lv2, hx.trans x1, x2, (x1.1 _ _ _ h17).1, (x1.1 _ _ _ h17).2⟩, b3⟩
theorem n_def6 : ∀ j, j < 5 → defaultValue (tyX11 j) = vp_V [.null, .null, .null, .null, .null] j := by decide +kernel
theorem n_def7 : ∀ j, j < 32 → defaultValue (tyX12 j) = vp_V [.null, .null, .null, .int 0, .null, .null, .null, .null, .null, .null, .null, .int 0, .int 0, .int 0, .int 0, .int 0, .int 0, .int 0, .int 0, .int 0, .int 0, .int 0, .int 0, .int 0, .null, .null, .null, .null, .null, .int 0, .int 0, .int 0] j := by decide +kernel
theorem cb_X11_init : j_CB yX11_init cX11_init 1 none 0 := ⟨by decide +kernel, j_in 131 (by decide +kernel) (by decide +kernel), j_in 107 (by decide +kernel) (by decide +kernel), by decide +kernel, by decide +kernel, by decide +kernel⟩
theorem cb_X12_init : j_CB yX12_init cX12_init 2 none 0 := ⟨by decide +kernel, j_in 1171 (by decide +kernel) (by decide +kernel), j_in 114 (by decide +kernel) (by decide +kernel), by decide +kernel, by decide +kernel, by decide +kernel⟩
theorem dL_law_0 : decode cL_law 0 = .ok (.new 7, 3) := by decide +kernel
theorem dL_law_3 : decode cL_law 3 = .ok (.dup, 1) := by decide +kernel
theorem dL_law_4 : decode cL_law 4 = .ok (.invokespecial 9, 3) := by decide +kernel
theorem dL_law_7 : decode cL_law 7 = .ok (.astore_n 1, 1) := by decide +kernel
theorem dL_law_8 : decode cL_law 8 = .ok (.new 10, 3) := by decide +kernel
theorem dL_law_11 : decode cL_law 11 = .ok (.dup, 1) := by decide +kernel
theorem dL_law_12 : decode cL_law 12 = .ok (.invokespecial 12, 3) := by decide +kernel
theorem dL_law_15 : decode cL_law 15 = .ok (.astore_n 2, 1) := by decide +kernel
/-! THE CLAIM OUT OF ONE WALK OF THE LAW'S BODY. Your part is whole_start (and what it stands on); all else here is the same for every law, but numbers. -/
def R_law : String := "CountedTokensLaw"
def lw_P (b : Addr) (xs : List Int32) (args : Array Value) (s : State) : Prop := args = #[.ref b] ∧ s.IntsAt b xs ∧ xs.length ≤ 3072 ∧ (Jvm.Cond.and given_1 narrow_1).before args s = true
def lw_Q (_ : Array Value) (s : State) (o : Outcome) (t : State) : Prop := o = .returned (some (.int 1)) ∧ Framed s o t [] 600000 7302250
def lw_Z (below : List Frame) (a : Array Value) (s : State) : State → Prop := fun t => ∃ o, t.status = .running ∧ Ended t below o ∧ lw_Q a s o t
/-- the law's own end, with 1 on the stack, nothing written that was there before, its room as the claim has it -/
theorem lw_ret {p : Program} {l : Launch} {e : Env} {s : State} {m : MethodId} {below : List Frame} {meth : Method} {c : Code} {b : Nat} (hx : p.tables.exec = Jvm.exec) (hb : c.code = code) (hr : meth.sig.returnType = ret) (hlocks : meth.locks = false) {pc : Nat} {H : Heap} {ls : Array Slot} (hdg : decode code pc = .ok (.ireturn, 1)) : W p l e room_1 s m #[Value.ref b] below meth c H [] 600000 7302250 (lw_Z below #[Value.ref b] s) (F0 m pc ls [.int 1]) := by
  intro T hT X
  obtain ⟨fs, hret, hrun, hended, hW, hframe⟩ := X.leave (v := some (.int 1)) (hlocks := hlocks) (fun h => by rw [hr] at h; cases h)
  have hmeth' : T.vm.method? m = some meth := X.method'
  refine ⟨T.setFrames fs, ?_, .returned (some (.int 1)), hrun, hended, rfl, ⟨_, rfl⟩, hW, hframe⟩
  jvm_step X.here [X.here.top, hx, hb, hdg, hmeth', hr, ret, narrow_b1]
  (try refine ⟨rfl, ?_⟩); (try refine ⟨rfl, ?_⟩)
  first | (intro acts; rw [hret _ acts rfl rfl rfl]) | rw [hret _ _ rfl rfl rfl]
  exact Steps.refl _
/-- what holds at the law's entry: the machine, the code, the tables' words (any of lw_tbl by 'hts w (by decide +kernel)'), the script of L ints xs at the cell b, what the Statement gives of the start (any of its parts by flat_of_before) -/
def lw_At (p : Program) (s : State) (m : MethodId) (meth : Method) (c : Code) (b L : Nat) (xs : Nat → Int32) : Prop :=
  p.tables.exec = Jvm.exec ∧ c.code = code ∧ meth.sig.returnType = ret ∧ c.maxLocals = 4 ∧ s.vm.findClass R_law = some m.cls ∧ (∀ w ∈ lw_tbl, w.before #[Value.ref b] s = true) ∧ va_X b L xs s s.heap ∧ b < s.heap.size ∧ meth.locks = false ∧ (Jvm.Cond.and given_1 narrow_1).before #[Value.ref b] s = true
/-- what is left: over the memory alone, the law's loop answers 1 -/
def s_main : Prop := ∀ (L : Nat) (xs : Nat → Int32), L ≤ 3072 → ∃ M2 M3, xX12_init (md (mx (k0 xs))) = some M2 ∧ (∀ j, M2 0 j = 0) ∧ xL_law L M2 = some (1, M3)
set_option maxRecDepth 100000 in
set_option maxHeartbeats 8000000 in
theorem whole_start_of (hmain : s_main) {p : Program} {e : Env} {s : State} {m : MethodId} {below : List Frame} {meth : Method} {c : Code} (l : Launch) {b L : Nat} {xs : Nat → Int32} (hL : L ≤ 3072) (C0 : lw_At p s m meth c b L xs) : W p l e room_1 s m #[Value.ref b] below meth c s.heap [] 0 0 (lw_Z below #[Value.ref b] s) (entryFrame m ([Value.ref b] : List Value).toArray 4) := by
  obtain ⟨hx, hb9, hr, hml, hown, hts, hX, hbl, hlocks, hgv⟩ := id C0
  obtain ⟨D, aI, aB, io, Lv, hS, hH, h310, h310b, hLv0⟩ := s_start hts hgv hX hbl
  obtain ⟨M2, M3, hrun, hM20, hlaw⟩ := hmain L xs hL
  have cx : j_Cx yL_law cL_law 4 (some .boolean) p s m #[Value.ref b] meth c := ⟨hx, hb9, hr, hml, fun w hw => hts w (List.mem_filter.mp hw).1, hown, hlocks⟩
  have hN := hS.2.2.2.2.2.2.2.2.2.2.1
  have hl := lv_entry ([.ref b]) (n := 4) (Nat.le_of_ble_eq_true rfl)
  rw [lg_entry_eq]
  generalize (lg_sl ([.ref b]) ++ List.replicate (4 - (lg_sl ([.ref b])).length) Slot.unset).toArray = la at hl ⊢
  have hl : lv_has la 4 [(0, .ref b)] := hl
  have hB : hb s.heap s.heap 0 [] := ⟨rfl, fun _ _ _ => rfl, fun x hx => (by cases hx), fun i j x y hi => (by cases hi)⟩
  have hlo : ∀ q ∈ ([] : List Loc), s.heap.size ≤ q.base := fun q hq => by cases hq
  refine N_new cx hS.1 (C := RX11) (T := TX11) (N := 5) (ci := 6) (V := (vp_V [.null, .null, .null, .null, .null])) (q := 3) ws_in6 tyX11 tyX11_ok (j_in 127 (by decide +kernel) (by decide +kernel)) (j_in 128 (by decide +kernel) (by decide +kernel)) (j_in 107 (by decide +kernel) (by decide +kernel)) rfl n_def6 dL_law_0 (Nat.le_of_ble_eq_true rfl) (Nat.le_of_ble_eq_true rfl) hB rfl (fun H hB => ?_)
  have hB : hb s.heap H 1 [(s.heap.size + 0, n_at D 6 5 (vp_V [.null, .null, .null, .null, .null]))] := hB
  refine W.eq (g2 := F0 m 3 la [.ref (s.heap.size + 0)]) rfl ?_
  refine lv_dup cx.1 cx.2.1 dL_law_3 rfl ?_
  refine N_ctor cx hS.1 hN (S' := n_at D 6 5 (vp_V [.ref (s.heap.size + 1), .ref (s.heap.size + 28), .null, .null, .null])) (P2 := [(s.heap.size + 1, n_at D 2 3 (vp_V [.ref (s.heap.size + 2), .ref (s.heap.size + 14), .ref (s.heap.size + 22)])), (s.heap.size + 2, n_at D 1 15 (vp_V [.ref (s.heap.size + 3), .ref (s.heap.size + 4), .ref (s.heap.size + 5), .ref (s.heap.size + 6), .ref (s.heap.size + 7), .ref (s.heap.size + 8), .ref (s.heap.size + 9), .ref (s.heap.size + 10), .ref (s.heap.size + 11), .ref (s.heap.size + 12), .ref (s.heap.size + 13), .int 0, .int 0, .int 0, .int 0])), (s.heap.size + 3, n_ar aI 100 (fun _ => 0)), (s.heap.size + 4, n_ar aI 49 (fun _ => 0)), (s.heap.size + 5, n_ar aI 49 (fun _ => 0)), (s.heap.size + 6, n_ar aI 49 (fun _ => 0)), (s.heap.size + 7, n_ar aI 360 (fun _ => 0)), (s.heap.size + 8, n_ar aI 6 (fun _ => 0)), (s.heap.size + 9, n_ar aI 6 (fun _ => 0)), (s.heap.size + 10, n_ar aI 6 (fun _ => 0)), (s.heap.size + 11, n_ar aI 6 (fun _ => 0)), (s.heap.size + 12, n_ar aI 6 (fun _ => 0)), (s.heap.size + 13, n_ar aI 6 (fun _ => 0)), (s.heap.size + 14, n_at D 0 15 (vp_V [.ref (s.heap.size + 2), .ref (s.heap.size + 15), .ref (s.heap.size + 16), .ref (s.heap.size + 17), .ref (s.heap.size + 18), .ref (s.heap.size + 19), .ref (s.heap.size + 20), .ref (s.heap.size + 21), .int 0, .int (3), .int (8), .int (4), .int 0, .int (6), .int 0])), (s.heap.size + 15, n_ar aI 112 (fun j => if j < 8 then 56 else 0)), (s.heap.size + 16, n_ar aI 256 (fun _ => 0)), (s.heap.size + 17, n_ar aI 48 (fun _ => -1)), (s.heap.size + 18, n_ar aI 48 (fun _ => 0)), (s.heap.size + 19, n_ar aI 6 (fun _ => 0)), (s.heap.size + 20, n_ar aI 6 (fun _ => 0)), (s.heap.size + 21, n_ar aI 6 (fun _ => 0)), (s.heap.size + 22, n_at D 4 8 (vp_V [.ref (s.heap.size + 23), .ref (s.heap.size + 24), .ref (s.heap.size + 25), .ref (s.heap.size + 26), .ref (s.heap.size + 27), .int 0, .int 0, .int 0])), (s.heap.size + 23, n_ar aI 1200 (fun _ => 0)), (s.heap.size + 24, n_ar aI 6 (fun _ => 0)), (s.heap.size + 25, n_ar aI 6 (fun _ => 0)), (s.heap.size + 26, n_ar aI 6 (fun _ => 0)), (s.heap.size + 27, n_ar aI 24 (fun _ => 0)), (s.heap.size + 28, n_at D 3 13 (vp_V [.ref (s.heap.size + 29), .ref (s.heap.size + 30), .ref (s.heap.size + 31), .ref (s.heap.size + 32), .int 0, .int 0, .int (-1), .int 0, .int 0, .int 0, .int 0, .int 0, .int 0])), (s.heap.size + 29, n_ar aI 400 (fun _ => 0)), (s.heap.size + 30, n_ar aI 200 (fun _ => 0)), (s.heap.size + 31, n_ar aI 3 (fun _ => 0)), (s.heap.size + 32, n_ar aI 3 (fun _ => 0))]) (q := 7) 0 (c_X11_init l D aI aB s.heap.size (s.heap.size + 0)) cb_X11_init rfl (j_in 130 (by decide +kernel) (by decide +kernel)) (Or.inl (j_in 129 (by decide +kernel) (by decide +kernel))) dL_law_4 rfl hl.1 (Nat.le_of_ble_eq_true rfl) ⟨Nat.le_of_ble_eq_true rfl, Nat.le_of_ble_eq_true rfl⟩ ⟨Nat.le_of_ble_eq_true rfl, Nat.le_of_ble_eq_true rfl⟩ hB rfl (Nat.le_add_right _ _) rfl (by simp <;> omega) hlo rfl (fun H locs hB hlo => ?_)
  have hB : hb s.heap H 33 ((s.heap.size + 0, n_at D 6 5 (vp_V [.ref (s.heap.size + 1), .ref (s.heap.size + 28), .null, .null, .null])) :: [(s.heap.size + 1, n_at D 2 3 (vp_V [.ref (s.heap.size + 2), .ref (s.heap.size + 14), .ref (s.heap.size + 22)])), (s.heap.size + 2, n_at D 1 15 (vp_V [.ref (s.heap.size + 3), .ref (s.heap.size + 4), .ref (s.heap.size + 5), .ref (s.heap.size + 6), .ref (s.heap.size + 7), .ref (s.heap.size + 8), .ref (s.heap.size + 9), .ref (s.heap.size + 10), .ref (s.heap.size + 11), .ref (s.heap.size + 12), .ref (s.heap.size + 13), .int 0, .int 0, .int 0, .int 0])), (s.heap.size + 3, n_ar aI 100 (fun _ => 0)), (s.heap.size + 4, n_ar aI 49 (fun _ => 0)), (s.heap.size + 5, n_ar aI 49 (fun _ => 0)), (s.heap.size + 6, n_ar aI 49 (fun _ => 0)), (s.heap.size + 7, n_ar aI 360 (fun _ => 0)), (s.heap.size + 8, n_ar aI 6 (fun _ => 0)), (s.heap.size + 9, n_ar aI 6 (fun _ => 0)), (s.heap.size + 10, n_ar aI 6 (fun _ => 0)), (s.heap.size + 11, n_ar aI 6 (fun _ => 0)), (s.heap.size + 12, n_ar aI 6 (fun _ => 0)), (s.heap.size + 13, n_ar aI 6 (fun _ => 0)), (s.heap.size + 14, n_at D 0 15 (vp_V [.ref (s.heap.size + 2), .ref (s.heap.size + 15), .ref (s.heap.size + 16), .ref (s.heap.size + 17), .ref (s.heap.size + 18), .ref (s.heap.size + 19), .ref (s.heap.size + 20), .ref (s.heap.size + 21), .int 0, .int (3), .int (8), .int (4), .int 0, .int (6), .int 0])), (s.heap.size + 15, n_ar aI 112 (fun j => if j < 8 then 56 else 0)), (s.heap.size + 16, n_ar aI 256 (fun _ => 0)), (s.heap.size + 17, n_ar aI 48 (fun _ => -1)), (s.heap.size + 18, n_ar aI 48 (fun _ => 0)), (s.heap.size + 19, n_ar aI 6 (fun _ => 0)), (s.heap.size + 20, n_ar aI 6 (fun _ => 0)), (s.heap.size + 21, n_ar aI 6 (fun _ => 0)), (s.heap.size + 22, n_at D 4 8 (vp_V [.ref (s.heap.size + 23), .ref (s.heap.size + 24), .ref (s.heap.size + 25), .ref (s.heap.size + 26), .ref (s.heap.size + 27), .int 0, .int 0, .int 0])), (s.heap.size + 23, n_ar aI 1200 (fun _ => 0)), (s.heap.size + 24, n_ar aI 6 (fun _ => 0)), (s.heap.size + 25, n_ar aI 6 (fun _ => 0)), (s.heap.size + 26, n_ar aI 6 (fun _ => 0)), (s.heap.size + 27, n_ar aI 24 (fun _ => 0)), (s.heap.size + 28, n_at D 3 13 (vp_V [.ref (s.heap.size + 29), .ref (s.heap.size + 30), .ref (s.heap.size + 31), .ref (s.heap.size + 32), .int 0, .int 0, .int (-1), .int 0, .int 0, .int 0, .int 0, .int 0, .int 0])), (s.heap.size + 29, n_ar aI 400 (fun _ => 0)), (s.heap.size + 30, n_ar aI 200 (fun _ => 0)), (s.heap.size + 31, n_ar aI 3 (fun _ => 0)), (s.heap.size + 32, n_ar aI 3 (fun _ => 0))]) := hB
  refine W.eq (g2 := F0 m 7 la [.ref (s.heap.size + 0)]) rfl ?_
  refine W.widen (k := 33) (n := 3032) (Nat.le_of_ble_eq_true rfl) (Nat.le_of_ble_eq_true rfl) ?_
  refine lv_astore_n cx.1 cx.2.1 dL_law_7 rfl hl (by decide) (lv' := [(1, .ref (s.heap.size + 0)), (0, .ref b)]) rfl (fun la hl => ?_)
  have hkeep : ∀ q, q < s.heap.size → (∀ r, r < 33 → (fun r => s.heap.size + x_off r) r ≠ q) → H[q]? = s.heap[q]? := fun q hq _ => hB.2.1 q hq fun x hx => by
    simp only [List.mem_cons, List.not_mem_nil, or_false] at hx
    rcases hx with rfl | rfl | rfl | rfl | rfl | rfl | rfl | rfl | rfl | rfl | rfl | rfl | rfl | rfl | rfl | rfl | rfl | rfl | rfl | rfl | rfl | rfl | rfl | rfl | rfl | rfl | rfl | rfl | rfl | rfl | rfl | rfl | rfl <;> simp only [] <;> omega
  have hkd : ∀ r, r < 33 → a_ok D aI aB (a_io io 0 33 (fun r => s.heap.size + x_off r)) (mx (k0 xs)) 0 33 x_kd H r := fun r hr => by
    match r, hr with
    | 0, _ =>
      refine Or.inr (Or.inr ⟨6, _, rfl, rfl, l_obj (i := 0) hB rfl (fun k hk => by match k, hk with | 0, _ => rfl | 1, _ => rfl | 2, _ => rfl | 3, _ => rfl | 4, _ => rfl | k + 5, hk => exact absurd hk (by show ¬ k + 5 < 5; omega)), fun f hf => ?_⟩)
      match f, hf with
      | 0, _ => intro gg hg hh; cases hg; exact ⟨by decide, rfl⟩
      | 1, _ => intro gg hg hh; cases hg; exact ⟨by decide, rfl⟩
      | 2, _ => intro gg hg hh; cases hg; exact hh.elim (fun h9 => by cases h9) (fun h9 => absurd rfl h9)
      | 3, _ => intro gg hg hh; cases hg; exact hh.elim (fun h9 => by cases h9) (fun h9 => absurd rfl h9)
      | 4, _ => intro gg hg hh; cases hg; exact hh.elim (fun h9 => by cases h9) (fun h9 => absurd rfl h9)
      | f + 5, hf => exact absurd hf (by show ¬ f + 5 < 5; omega)
    | 1, _ =>
      refine Or.inr (Or.inr ⟨2, _, rfl, rfl, l_obj (i := 1) hB rfl (fun k hk => by match k, hk with | 0, _ => rfl | 1, _ => rfl | 2, _ => rfl | k + 3, hk => exact absurd hk (by show ¬ k + 3 < 3; omega)), fun f hf => ?_⟩)
      match f, hf with
      | 0, _ => intro gg hg hh; cases hg; exact ⟨by decide, rfl⟩
      | 1, _ => intro gg hg hh; cases hg; exact ⟨by decide, rfl⟩
      | 2, _ => intro gg hg hh; cases hg; exact ⟨by decide, rfl⟩
      | f + 3, hf => exact absurd hf (by show ¬ f + 3 < 3; omega)
    | 2, _ =>
      refine Or.inr (Or.inr ⟨0, _, rfl, rfl, l_obj (i := 14) hB rfl (fun k hk => by match k, hk with | 0, _ => rfl | 1, _ => rfl | 2, _ => rfl | 3, _ => rfl | 4, _ => rfl | 5, _ => rfl | 6, _ => rfl | 7, _ => rfl | 8, _ => rfl | 9, _ => rfl | 10, _ => rfl | 11, _ => rfl | 12, _ => rfl | 13, _ => rfl | 14, _ => rfl | k + 15, hk => exact absurd hk (by show ¬ k + 15 < 15; omega)), fun f hf => ?_⟩)
      match f, hf with
      | 0, _ => intro gg hg hh; cases hg; exact ⟨by decide, rfl⟩
      | 1, _ => intro gg hg hh; cases hg; exact ⟨by decide, rfl⟩
      | 2, _ => intro gg hg hh; cases hg; exact ⟨by decide, rfl⟩
      | 3, _ => intro gg hg hh; cases hg; exact ⟨by decide, rfl⟩
      | 4, _ => intro gg hg hh; cases hg; exact ⟨by decide, rfl⟩
      | 5, _ => intro gg hg hh; cases hg; exact ⟨by decide, rfl⟩
      | 6, _ => intro gg hg hh; cases hg; exact ⟨by decide, rfl⟩
      | 7, _ => intro gg hg hh; cases hg; exact ⟨by decide, rfl⟩
      | 8, _ => intro gg hg hh; cases hg
      | 9, _ => intro gg hg hh; cases hg
      | 10, _ => intro gg hg hh; cases hg
      | 11, _ => intro gg hg hh; cases hg
      | 12, _ => intro gg hg hh; cases hg
      | 13, _ => intro gg hg hh; cases hg
      | 14, _ => intro gg hg hh; cases hg
      | f + 15, hf => exact absurd hf (by show ¬ f + 15 < 15; omega)
    | 3, _ => exact Or.inl ⟨112, rfl, l_cell (i := 15) hB rfl⟩
    | 4, _ => exact Or.inl ⟨256, rfl, l_cell (i := 16) hB rfl⟩
    | 5, _ => exact Or.inl ⟨48, rfl, l_cell (i := 17) hB rfl⟩
    | 6, _ => exact Or.inl ⟨48, rfl, l_cell (i := 18) hB rfl⟩
    | 7, _ => exact Or.inl ⟨6, rfl, l_cell (i := 19) hB rfl⟩
    | 8, _ => exact Or.inl ⟨6, rfl, l_cell (i := 20) hB rfl⟩
    | 9, _ => exact Or.inl ⟨6, rfl, l_cell (i := 21) hB rfl⟩
    | 10, _ =>
      refine Or.inr (Or.inr ⟨1, _, rfl, rfl, l_obj (i := 2) hB rfl (fun k hk => by match k, hk with | 0, _ => rfl | 1, _ => rfl | 2, _ => rfl | 3, _ => rfl | 4, _ => rfl | 5, _ => rfl | 6, _ => rfl | 7, _ => rfl | 8, _ => rfl | 9, _ => rfl | 10, _ => rfl | 11, _ => rfl | 12, _ => rfl | 13, _ => rfl | 14, _ => rfl | k + 15, hk => exact absurd hk (by show ¬ k + 15 < 15; omega)), fun f hf => ?_⟩)
      match f, hf with
      | 0, _ => intro gg hg hh; cases hg; exact ⟨by decide, rfl⟩
      | 1, _ => intro gg hg hh; cases hg; exact ⟨by decide, rfl⟩
      | 2, _ => intro gg hg hh; cases hg; exact ⟨by decide, rfl⟩
      | 3, _ => intro gg hg hh; cases hg; exact ⟨by decide, rfl⟩
      | 4, _ => intro gg hg hh; cases hg; exact ⟨by decide, rfl⟩
      | 5, _ => intro gg hg hh; cases hg; exact ⟨by decide, rfl⟩
      | 6, _ => intro gg hg hh; cases hg; exact ⟨by decide, rfl⟩
      | 7, _ => intro gg hg hh; cases hg; exact ⟨by decide, rfl⟩
      | 8, _ => intro gg hg hh; cases hg; exact ⟨by decide, rfl⟩
      | 9, _ => intro gg hg hh; cases hg; exact ⟨by decide, rfl⟩
      | 10, _ => intro gg hg hh; cases hg; exact ⟨by decide, rfl⟩
      | 11, _ => intro gg hg hh; cases hg
      | 12, _ => intro gg hg hh; cases hg
      | 13, _ => intro gg hg hh; cases hg
      | 14, _ => intro gg hg hh; cases hg
      | f + 15, hf => exact absurd hf (by show ¬ f + 15 < 15; omega)
    | 11, _ => exact Or.inl ⟨100, rfl, l_cell (i := 3) hB rfl⟩
    | 12, _ => exact Or.inl ⟨49, rfl, l_cell (i := 4) hB rfl⟩
    | 13, _ => exact Or.inl ⟨49, rfl, l_cell (i := 5) hB rfl⟩
    | 14, _ => exact Or.inl ⟨49, rfl, l_cell (i := 6) hB rfl⟩
    | 15, _ => exact Or.inl ⟨360, rfl, l_cell (i := 7) hB rfl⟩
    | 16, _ => exact Or.inl ⟨6, rfl, l_cell (i := 8) hB rfl⟩
    | 17, _ => exact Or.inl ⟨6, rfl, l_cell (i := 9) hB rfl⟩
    | 18, _ => exact Or.inl ⟨6, rfl, l_cell (i := 10) hB rfl⟩
    | 19, _ => exact Or.inl ⟨6, rfl, l_cell (i := 11) hB rfl⟩
    | 20, _ => exact Or.inl ⟨6, rfl, l_cell (i := 12) hB rfl⟩
    | 21, _ => exact Or.inl ⟨6, rfl, l_cell (i := 13) hB rfl⟩
    | 22, _ =>
      refine Or.inr (Or.inr ⟨4, _, rfl, rfl, l_obj (i := 22) hB rfl (fun k hk => by match k, hk with | 0, _ => rfl | 1, _ => rfl | 2, _ => rfl | 3, _ => rfl | 4, _ => rfl | 5, _ => rfl | 6, _ => rfl | 7, _ => rfl | k + 8, hk => exact absurd hk (by show ¬ k + 8 < 8; omega)), fun f hf => ?_⟩)
      match f, hf with
      | 0, _ => intro gg hg hh; cases hg; exact ⟨by decide, rfl⟩
      | 1, _ => intro gg hg hh; cases hg; exact ⟨by decide, rfl⟩
      | 2, _ => intro gg hg hh; cases hg; exact ⟨by decide, rfl⟩
      | 3, _ => intro gg hg hh; cases hg; exact ⟨by decide, rfl⟩
      | 4, _ => intro gg hg hh; cases hg; exact ⟨by decide, rfl⟩
      | 5, _ => intro gg hg hh; cases hg
      | 6, _ => intro gg hg hh; cases hg
      | 7, _ => intro gg hg hh; cases hg
      | f + 8, hf => exact absurd hf (by show ¬ f + 8 < 8; omega)
    | 23, _ => exact Or.inl ⟨1200, rfl, l_cell (i := 23) hB rfl⟩
    | 24, _ => exact Or.inl ⟨6, rfl, l_cell (i := 24) hB rfl⟩
    | 25, _ => exact Or.inl ⟨6, rfl, l_cell (i := 25) hB rfl⟩
    | 26, _ => exact Or.inl ⟨6, rfl, l_cell (i := 26) hB rfl⟩
    | 27, _ => exact Or.inl ⟨24, rfl, l_cell (i := 27) hB rfl⟩
    | 28, _ =>
      refine Or.inr (Or.inr ⟨3, _, rfl, rfl, l_obj (i := 28) hB rfl (fun k hk => by match k, hk with | 0, _ => rfl | 1, _ => rfl | 2, _ => rfl | 3, _ => rfl | 4, _ => rfl | 5, _ => rfl | 6, _ => rfl | 7, _ => rfl | 8, _ => rfl | 9, _ => rfl | 10, _ => rfl | 11, _ => rfl | 12, _ => rfl | k + 13, hk => exact absurd hk (by show ¬ k + 13 < 13; omega)), fun f hf => ?_⟩)
      match f, hf with
      | 0, _ => intro gg hg hh; cases hg; exact ⟨by decide, rfl⟩
      | 1, _ => intro gg hg hh; cases hg; exact ⟨by decide, rfl⟩
      | 2, _ => intro gg hg hh; cases hg; exact ⟨by decide, rfl⟩
      | 3, _ => intro gg hg hh; cases hg; exact ⟨by decide, rfl⟩
      | 4, _ => intro gg hg hh; cases hg
      | 5, _ => intro gg hg hh; cases hg
      | 6, _ => intro gg hg hh; cases hg
      | 7, _ => intro gg hg hh; cases hg
      | 8, _ => intro gg hg hh; cases hg
      | 9, _ => intro gg hg hh; cases hg
      | 10, _ => intro gg hg hh; cases hg
      | 11, _ => intro gg hg hh; cases hg
      | 12, _ => intro gg hg hh; cases hg
      | f + 13, hf => exact absurd hf (by show ¬ f + 13 < 13; omega)
    | 29, _ => exact Or.inl ⟨400, rfl, l_cell (i := 29) hB rfl⟩
    | 30, _ => exact Or.inl ⟨200, rfl, l_cell (i := 30) hB rfl⟩
    | 31, _ => exact Or.inl ⟨3, rfl, l_cell (i := 31) hB rfl⟩
    | 32, _ => exact Or.inl ⟨3, rfl, l_cell (i := 32) hB rfl⟩
    | r + 33, hr => exact absurd hr (by omega)
  have hinj0 : ∀ r, r < 33 → ∀ r', r' < 33 → x_off r = x_off r' → r = r' := by decide +kernel
  have hinj := fun r r' hr hr' => hinj0 r hr r' hr'
  obtain ⟨hH2, hx2⟩ := j_H_add (M2 := mx (k0 xs)) (kd := x_kd) (b := 0) hH (by have := hB.1; omega) hkeep (fun r _ => Nat.le_add_right _ _) (fun k l a h hk => by have := hLv0 k l a h; omega) (fun r r' hr hr' e => hinj r r' hr hr' (by have e : s.heap.size + x_off r = s.heap.size + x_off r' := e; omega)) (fun k l a h => by have := hLv0 k l a h; omega) (fun x hx => by funext j; unfold mx; rw [if_neg (by omega), if_neg (by omega), if_neg (by omega), if_neg (by omega)]) (fun r hr h => by (have h9 : r = 0 := by omega); subst h9; rfl) (fun k l a h => by
    rcases h with h | ⟨x1, x2, x3⟩
    · have := hLv0 k l a h
      exact ⟨by omega, by omega, by omega, by omega⟩
    · refine ⟨?_, by omega, by omega, by omega⟩
      rw [Nat.sub_zero] at x3
      have : ∀ r, r < 33 → (x_kd r).1 ≠ 0 := by decide +kernel
      have := this a (by omega)
      rw [x3] at this
      exact this) hkd
  have hx0 : (l_Lv Lv 0 33 x_kd) 16 0 0 := Or.inr ⟨by omega, by omega, rfl⟩
  have hS2 := hS.ext hx2
  have hszH : H.size = s.heap.size + 33 := hB.1
  have hB2 : hb H H 0 [] := ⟨rfl, fun _ _ _ => rfl, fun x hx => (by cases hx), fun i j x y hi => (by cases hi)⟩
  refine N_new cx hS2.1 (C := RX12) (T := TX12) (N := 32) (ci := 7) (V := (vp_V [.null, .null, .null, .int 0, .null, .null, .null, .null, .null, .null, .null, .int 0, .int 0, .int 0, .int 0, .int 0, .int 0, .int 0, .int 0, .int 0, .int 0, .int 0, .int 0, .int 0, .null, .null, .null, .null, .null, .int 0, .int 0, .int 0])) (q := 11) ws_in7 tyX12 tyX12_ok (j_in 1167 (by decide +kernel) (by decide +kernel)) (j_in 1168 (by decide +kernel) (by decide +kernel)) (j_in 114 (by decide +kernel) (by decide +kernel)) rfl n_def7 dL_law_8 (Nat.le_of_ble_eq_true rfl) (Nat.le_of_ble_eq_true rfl) hB2 rfl (fun H3 hB3 => ?_)
  have hB3 : hb H H3 1 [(H.size + 0, n_at D 7 32 (vp_V [.null, .null, .null, .int 0, .null, .null, .null, .null, .null, .null, .null, .int 0, .int 0, .int 0, .int 0, .int 0, .int 0, .int 0, .int 0, .int 0, .int 0, .int 0, .int 0, .int 0, .null, .null, .null, .null, .null, .int 0, .int 0, .int 0]))] := hB3
  refine W.eq (g2 := F0 m 11 la [.ref (H.size + 0)]) rfl ?_
  refine lv_dup cx.1 cx.2.1 dL_law_11 rfl ?_
  have hkeep3 : ∀ q, q < H.size → H3[q]? = H[q]? := fun q hq => hB3.2.1 q hq fun x hx => by
    simp only [List.mem_cons, List.not_mem_nil, or_false] at hx
    rw [hx]; simp only []; omega
  have hlive : ∀ k l a, (l_Lv Lv 0 33 x_kd) k l a → (k < 3 ∨ 10 ≤ k) → (a_io io 0 33 (fun r => s.heap.size + x_off r)) a < H.size := fun k l a h hk => by
    have hk0 := (hH2.2.2.2.2.2 k l a h).1
    obtain ⟨o1, o2, -, o4⟩ := hH2.2.2.2.2.1 k l a h
    by_cases e1 : k = 1
    · exact (Array.getElem?_eq_some_iff.mp (o1 e1).1).1
    · by_cases e2 : k = 2
      · exact (Array.getElem?_eq_some_iff.mp (o2 e2).1).1
      · obtain ⟨r, -, ⟨cell, q1, -⟩, q2, -⟩ := o4 (k - 10) (by omega)
        exact (Array.getElem?_eq_some_iff.mp q1).1
  have hH3 : j_H D aI aB s.heap (a_io io 0 33 (fun r => s.heap.size + x_off r)) (l_Lv Lv 0 33 x_kd) (k0 xs) (mx (k0 xs)) H3 := by
    obtain ⟨g1, g2, g3, g4, g5, g6⟩ := hH2
    have hsz3 : H3.size = H.size + 1 := hB3.1
    refine ⟨by omega, fun q hq => by rw [hkeep3 q (by omega)]; exact g2 q hq, g3, g4, fun k l a h => ?_, g6⟩
    obtain ⟨o1, o2, o3, o4⟩ := g5 k l a h
    refine ⟨fun e => ?_, fun e => ?_, o3, fun ci e => ?_⟩
    · rw [hkeep3 _ (hlive k l a h (Or.inl (by omega)))]; exact o1 e
    · rw [hkeep3 _ (hlive k l a h (Or.inl (by omega)))]; exact o2 e
    · obtain ⟨r, q1, q2, q3, q4⟩ := o4 ci e
      exact ⟨r, q1, q2.kept (hkeep3 _ (hlive k l a h (Or.inr (by omega)))), q3, q4⟩
  have hfr : ∀ k l a, (l_Lv Lv 0 33 x_kd) k l a → ¬ (200 ≤ a ∧ a < 216) := fun k l a h => by
    rcases h with h | ⟨x1, x2, x3⟩
    · have := hLv0 k l a h; omega
    · omega
  have hM20' : M2 0 = mx (k0 xs) 0 := by funext j; rw [hM20]; rfl
  have hM := c_X12_init l D aI aB s.heap (a_io io 0 33 (fun r => s.heap.size + x_off r)) (l_Lv Lv 0 33 x_kd) (k0 xs) (mx (k0 xs)) M2 (H.size + 0) (fun k l a h hk => by have := hlive k l a h hk; omega) hfr hrun hM20'
  have hFix : CallFix p m c cL_law 4 s #[Value.ref b] j_ws yL_law.cls := ⟨cx.1, cx.2.1, cx.2.2.2.1, cx.2.2.2.2.2.1, cx.2.2.2.2.1⟩
  have hPre : PreS s H3 (m_Pc D aI aB s.heap (a_io io 0 33 (fun r => s.heap.size + x_off r)) (l_Lv Lv 0 33 x_kd) (k0 xs) (mx (k0 xs)) (H.size + 0)) (.ref (H.size + 0) :: []) := ⟨m_Pc_blind, fun U hU hW => ⟨rfl, hS2.warm hW, by rw [hU]; exact hH3, by rw [hU]; exact hB3.2.2.1 _ List.mem_cons_self, by omega⟩⟩
  have hrun9 := va_runI (l := l) (e := e) (below := below) (meth := meth) (locs := locs) (cells := 33 + 1) (slots := 3032 + 32) (R := room_1) (index := 12) (As := []) (rest := [.ref (H.size + 0)]) (g := F0 m 12 la [.ref (H.size + 0), .ref (H.size + 0)]) hFix hM ⟨callB_of 0 cx.2.2.2.2.1 (j_ws_good cb_X12_init.2.1) rfl rfl rfl (cx.2.2.2.2.1 _ cb_X12_init.2.2.1) (cx.2.2.2.2.1 _ (j_in 1169 (by decide +kernel) (by decide +kernel))) cb_X12_init.2.2.2 ⟨Nat.le_of_ble_eq_true rfl, Nat.le_of_ble_eq_true rfl⟩, rfl, cx.2.2.2.2.1 _ (j_in 1170 (by decide +kernel) (by decide +kernel))⟩ hPre rfl rfl hl.1 rfl (Nat.le_of_ble_eq_true rfl) dL_law_12 ⟨Nat.le_of_ble_eq_true rfl, Nat.le_of_ble_eq_true rfl⟩
  intro T hT X
  obtain ⟨v9, st₀, t, T', LL, h0, X', hLL, e1, e2, ⟨ho, io4, Lv4, hx4, hH4, h17, hi17⟩, st⟩ := hrun9 T hT X
  cases ho
  have hlo4 : ∀ q ∈ locs ++ LL, s.heap.size ≤ q.base := fun q hq => by
    rcases List.mem_append.mp hq with h9 | h9
    · exact hlo q h9
    · exact hLL q h9
  have K : W p l e room_1 s m #[Value.ref b] below meth c t.heap (locs ++ LL) (33 + 1 + 15) (3032 + 32 + 220879) (lw_Z below #[Value.ref b] s) (F0 m 15 la [.ref (H.size + 0)]) := by
    refine lv_astore_n cx.1 cx.2.1 dL_law_15 rfl hl (by decide) (lv' := [(2, .ref (H.size + 0)), (1, .ref (s.heap.size + 0)), (0, .ref b)]) rfl (fun la hl => ?_)
    have hxx := hx2.trans hx4
    have l310 := hxx.1 _ _ _ h310
    have l0 := hx4.1 _ _ _ hx0
    have hlm : lv_has la 4 (j_lm io4 [(0, .inr (3, L, 310)), (1, .inr (16, 0, 0)), (2, .inr (17, 0, 200))]) := by
      have e310 : io4 310 = b := l310.2.trans h310b
      have e0 : io4 0 = s.heap.size + 0 := l0.2.trans rfl
      have this : lv_has la 4 [(0, .ref b), (1, .ref (s.heap.size + 0)), (2, .ref (H.size + 0))] := lv_sub hl [2, 1, 0] rfl
      simpa [j_lm, j_val, e310, e0, hi17] using this
    refine fun T2 hT2 X2 => ?_
    have hcc : j_cc M2 = 0 := by simp [j_cc, hM20]
    have hcs : j_cs M2 = 0 := by simp [j_cs, hM20]
    have hb1 : j_cc M3 ≤ 58 := by unfold j_cc; split <;> split <;> split <;> omega
    have hb2 : j_cs M3 ≤ 45859 := by unfold j_cs; split <;> split <;> split <;> omega
    obtain ⟨t9, a9, oo, b1, b2, ⟨io5, Lv5, x1, x2, x3, x4⟩, L9, ⟨f1, f2, f3⟩, f4⟩ := (tL_law L M2 (1, M3) hlaw).2 p l e s m #[Value.ref b] below meth c D aI aB s.heap io4 Lv4 (k0 xs) 600000 7302250 t.heap (locs ++ LL) (33 + 1 + 15) (3032 + 32 + 220879) la cx (hS.ext hxx) hH4 hlm (fun q hq => by
      simp only [List.mem_cons, List.not_mem_nil, or_false] at hq
      rcases hq with rfl | rfl | rfl
      · exact fun _ => l310.1
      · exact fun _ => l0.1
      · exact fun _ => h17) (fun x hx => by cases hx) hlo4 (by show _ + j_cc M3 ≤ _; omega) (by show _ + j_cs M3 ≤ _; omega) T2 hT2 X2
    refine ⟨t9, a9, oo, b1, b2, x4, f1, f2, ?_⟩
    exact State.sameButNew.drop_fresh (L := []) f3 f4
  obtain ⟨t9, a9, b9⟩ := K T' e1 X'
  exact ⟨t9, st t9 a9, b9⟩
