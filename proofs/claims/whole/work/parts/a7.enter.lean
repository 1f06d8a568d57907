/-! ===== the class finds a state, or puts it down ===== -/
theorem WKR_php {M : j_M} {S0 : a_S} {n h : Nat} {κ : Nat → a_S} {d sl : Nat → Nat} (hw : WKR M S0 n κ d sl) : ¬ ∀ e, e < 1024 → sl ((h + e) % 1024) ≠ 0 := by
  intro ha
  obtain ⟨a1, a2, a3, a4, a5, a6, a7⟩ := hw
  have := php n 1024 (fun e => sl ((h + e) % 1024) - 1) (fun e he => by
    have := (a5 ((h + e) % 1024) (by omega)).2
    have := ha e he
    show sl ((h + e) % 1024) - 1 < n
    omega) (fun e e' h1 h2 he => by
    have he2 : sl ((h + e) % 1024) - 1 = sl ((h + e') % 1024) - 1 := he
    have n1 := ha e (by omega)
    have n2 := ha e' h2
    have := a6 ((h + e) % 1024) ((h + e') % 1024) (by omega) (by omega) (by omega) n1
    omega)
  omega
theorem x_e40 {M : j_M} {S0 S : a_S} {n a k : Nat} {κ : Nat → a_S} {d sl : Nat → Nat} (hw : WKR M S0 n κ d sl) (hV : CVS M 70 S) (hS : NOD S0 S) (sS : SRC S) : ∀ (m e : Nat), e + m = 1024 → (∀ e', e' < e → sl ((hq S (16 * (S0 1 0 + 1)) + e') % 1024) ≠ 0 ∧ ¬ KEQ (κ (sl ((hq S (16 * (S0 1 0 + 1)) + e') % 1024) - 1)) S) → (∃ s, s < n ∧ KEQ (κ s) S ∧ xX10_enter_40 70 (k + m + 1) (nI a) (nI ((hq S (16 * (S0 1 0 + 1)) + e) % 1024)) (nI e) M = some (nI s, M)) ∨ ((∀ s, s < n → ¬ KEQ (κ s) S) ∧ ∃ e0, e0 < 1024 ∧ sl ((hq S (16 * (S0 1 0 + 1)) + e0) % 1024) = 0 ∧ (∀ e', e' < e0 → sl ((hq S (16 * (S0 1 0 + 1)) + e') % 1024) ≠ 0) ∧ xX10_enter_40 70 (k + m + 1) (nI a) (nI ((hq S (16 * (S0 1 0 + 1)) + e) % 1024)) (nI e) M = xX10_enter_96 70 (nI a) (nI ((hq S (16 * (S0 1 0 + 1)) + e0) % 1024)) M) := by
  intro m
  induction m with
  | zero =>
    intro e he hp
    exact absurd (fun e' h' => (hp e' (by omega)).1) (WKR_php hw)
  | succ m ih =>
    intro e he hp
    have hw' := hw
    obtain ⟨a1, a2, a3, a4, a5, a6, a7⟩ := hw
    have n6 := g_n hS.1.1
    rw [hS.2.1.1] at n6
    have a5e := a5 ((hq S (16 * (S0 1 0 + 1)) + e) % 1024) (by omega)
    have st : xX10_enter_40 70 (k + (m + 1) + 1) (nI a) (nI ((hq S (16 * (S0 1 0 + 1)) + e) % 1024)) (nI e) M = if sl ((hq S (16 * (S0 1 0 + 1)) + e) % 1024) = 0 then xX10_enter_96 70 (nI a) (nI ((hq S (16 * (S0 1 0 + 1)) + e) % 1024)) M else obi (xX10_isState 70 (nI (sl ((hq S (16 * (S0 1 0 + 1)) + e) % 1024)) - nI 1) M) fun v4 M3 => (if v4 = (0 : Int32) then xX10_enter_40 70 (k + m + 1) (nI a) (nI ((hq S (16 * (S0 1 0 + 1)) + (e + 1)) % 1024)) (nI (e + 1)) M3 else gd (nI ((hq S (16 * (S0 1 0 + 1)) + e) % 1024)) 1024 (oli (M3 106 (ix (nI ((hq S (16 * (S0 1 0 + 1)) + e) % 1024)))) fun v5 => some (v5 - (nI 1), M3))) := by
      rw [show k + (m + 1) + 1 = (k + m + 1) + 1 by omega, xX10_enter_40.eq_2, if_neg (by rw [e_le (by omega) (by omega)]; omega), e_gd (by omega) (by omega), e_ix2 (by omega), a5e.1, e_oli2, e_gd (by omega) (by omega), e_oli2, e_add, e_add, e_and, show (1023 : Nat) = 2 ^ 10 - 1 by rfl, Nat.and_two_pow_sub_one_eq_mod, show ((hq S (16 * (S0 1 0 + 1)) + e) % 1024 + 1) % 2 ^ 10 = (hq S (16 * (S0 1 0 + 1)) + (e + 1)) % 1024 by omega]
      by_cases q : sl ((hq S (16 * (S0 1 0 + 1)) + e) % 1024) = 0
      · rw [if_pos q, if_pos (by rw [q]; decide)]
      · rw [if_neg q, if_neg (by rw [e_eq0 (by omega)]; exact q)]
    rw [st]
    by_cases q : sl ((hq S (16 * (S0 1 0 + 1)) + e) % 1024) = 0
    · rw [if_pos q]
      refine Or.inr ⟨fun s hs hk => ?_, e, by omega, q, fun e' h' => (hp e' h').1, rfl⟩
      obtain ⟨b1, b2, b3, b4, b5⟩ := a4 s hs
      have hc : CEQ (κ s) S (16 * (S0 1 0 + 1)) := (CEQ_k b3 hS b4 sS).2 hk
      obtain ⟨es, c1, c2, c3⟩ := a7 s hs
      rw [hq_k hc] at c2 c3
      by_cases w : es < e
      · have := (hp es w).2
        rw [c2, show s + 1 - 1 = s by omega] at this
        exact this hk
      · by_cases w2 : es = e
        · subst w2
          omega
        · exact c3 e (by omega) q
    · rw [if_neg q]
      obtain ⟨v, hv⟩ : ∃ v, sl ((hq S (16 * (S0 1 0 + 1)) + e) % 1024) = v + 1 := ⟨sl ((hq S (16 * (S0 1 0 + 1)) + e) % 1024) - 1, by omega⟩
      have hvn : v < n := by omega
      obtain ⟨b1, b2, b3, b4, b5⟩ := a4 v hvn
      obtain ⟨z, ez, hz⟩ := x_isState (N := M) (S := S) (u := 16 * (S0 1 0 + 1)) (by omega) (by omega) a3 b1 b3.1 hS.1 b5
      rw [xs_self hV] at ez
      rw [hv, e_sub (by omega), show v + 1 - 1 = v by omega, ez, e_obi2]
      rcases hz with ⟨rfl, hz⟩ | ⟨rfl, hz⟩
      · rw [if_neg (by decide), e_gd (by omega) (by omega), e_ix2 (by omega), a5e.1, hv, e_oli2, e_sub (by omega), show v + 1 - 1 = v by omega]
        exact Or.inl ⟨v, hvn, (CEQ_k b3 hS b4 sS).1 hz, rfl⟩
      · rw [if_pos (by decide)]
        refine ih (e + 1) (by omega) (fun e' h' => ?_)
        by_cases w : e' = e
        · subst w
          refine ⟨q, ?_⟩
          rw [hv, show v + 1 - 1 = v by omega]
          exact fun hk => hz ((CEQ_k b3 hS b4 sS).2 hk)
        · exact hp e' (by omega)
def kup (κ : Nat → a_S) (n : Nat) (U : a_S) : Nat → a_S := fun t => if t = n then U else κ t
def dup (d : Nat → Nat) (n v : Nat) : Nat → Nat := fun t => if t = n then v else d t
/-- a walker that knows one more -/
theorem WKR_new {M M' : j_M} {S0 S : a_S} {n a e0 : Nat} {κ : Nat → a_S} {d sl : Nat → Nat} (hw : WKR M S0 n κ d sl) (hn : n < 250) (hS : NOD S0 S) (sS : SRC S) (h24 : S 1 7 ≤ 24) (g1 : M' 100 10 = nI (n + 1)) (g2 : ∀ j, j ≠ 10 → M' 100 j = M 100 j) (g4 : STR M' (16 * (S0 1 0 + 1)) n S) (g5 : M' 105 n = nI a) (g6 : ∀ s, s < n → STR M' (16 * (S0 1 0 + 1)) s (κ s) ∧ M' 105 s = M 105 s) (g7 : ∀ j, M' 106 j = if j = (hq S (16 * (S0 1 0 + 1)) + e0) % 1024 then nI (n + 1) else M 106 j) (he0 : e0 < 1024) (hz : sl ((hq S (16 * (S0 1 0 + 1)) + e0) % 1024) = 0) (hp : ∀ e', e' < e0 → sl ((hq S (16 * (S0 1 0 + 1)) + e') % 1024) ≠ 0) : ∃ sl', WKR M' S0 (n + 1) (kup κ n S) (dup d n a) sl' := by
  obtain ⟨a1, a2, a3, a4, a5, a6, a7⟩ := hw
  have hkn : kup κ n S n = S := if_pos rfl
  have hko : ∀ s, s < n → kup κ n S s = κ s := fun s hs => if_neg (by omega)
  have hdn : dup d n a n = a := if_pos rfl
  have hdo : ∀ s, s < n → dup d n a s = d s := fun s hs => if_neg (by omega)
  generalize hQ : (hq S (16 * (S0 1 0 + 1)) + e0) % 1024 = Q at *
  have hQl : Q < 1024 := by omega
  refine ⟨fun j => if j = Q then n + 1 else sl j, by omega, g1, by rw [g2 15 (by omega)]; exact a3, fun s hs => ?_, fun q hq' => ?_, fun q q' h1 h2 h3 h4 => ?_, fun s hs => ?_⟩
  · by_cases c : s = n
    · subst c
      rw [hkn, hdn]
      exact ⟨g4, g5, hS, sS, h24⟩
    · have hs' : s < n := by omega
      rw [hko s hs', hdo s hs']
      obtain ⟨b1, b2, b3⟩ := a4 s hs'
      exact ⟨(g6 s hs').1, by rw [(g6 s hs').2]; exact b2, b3⟩
  · rw [g7]
    by_cases c : q = Q
    · simp only [if_pos c]
      exact ⟨trivial, Nat.le_refl _⟩
    · simp only [if_neg c]
      have := a5 q hq'
      exact ⟨this.1, by omega⟩
  · by_cases c : q = Q
    · by_cases c' : q' = Q
      · rw [c, c']
      · simp only [if_pos c, if_neg c'] at h3
        have := (a5 q' h2).2
        omega
    · by_cases c' : q' = Q
      · simp only [if_neg c, if_pos c'] at h3
        have := (a5 q h1).2
        omega
      · simp only [if_neg c, if_neg c'] at h3 h4
        exact a6 q q' h1 h2 h3 h4
  · by_cases c : s = n
    · subst c
      rw [hkn]
      refine ⟨e0, he0, ?_, fun e' h' => ?_⟩
      · rw [hQ]
        exact if_pos rfl
      · have := hp e' h'
        by_cases w : (hq S (16 * (S0 1 0 + 1)) + e') % 1024 = Q
        · rw [w] at this
          exact absurd hz this
        · simp only [if_neg w]
          exact this
    · have hs' : s < n := by omega
      rw [hko s hs']
      obtain ⟨e, c1, c2, c3⟩ := a7 s hs'
      refine ⟨e, c1, ?_, fun e' h' => ?_⟩
      · by_cases w : (hq (κ s) (16 * (S0 1 0 + 1)) + e) % 1024 = Q
        · rw [w, hz] at c2
          omega
        · simp only [if_neg w]
          exact c2
      · have := c3 e' h'
        by_cases w : (hq (κ s) (16 * (S0 1 0 + 1)) + e') % 1024 = Q
        · rw [w] at this
          exact absurd hz this
        · simp only [if_neg w]
          exact this
/-- thought and walker alone changed -/
def TWF (M M' : j_M) : Prop := ∀ x, (x < 70 ∨ (90 ≤ x ∧ x < 100) ∨ 111 ≤ x) → M' x = M x
theorem x_enter {M : j_M} {S0 S : a_S} {n a : Nat} {κ : Nat → a_S} {d sl : Nat → Nat} (hw : WKR M S0 n κ d sl) (hV : CVS M 70 S) (hS : NOD S0 S) : (24 < S 1 7 ∧ xX10_enter 70 (nI a) M = some (-1, mw M 100 16 (nI 1))) ∨ (S 1 7 ≤ 24 ∧ ∃ S', PRM S S' ∧ ((∃ s M', s < n ∧ KEQ (κ s) S' ∧ xX10_enter 70 (nI a) M = some (nI s, M') ∧ CVS M' 70 S' ∧ (∀ x, (x < 70 ∨ 90 ≤ x) → M' x = M x)) ∨ ((∀ s, s < n → ¬ KEQ (κ s) S') ∧ n < 250 ∧ SRC S' ∧ ∃ M' sl', xX10_enter 70 (nI a) M = some (nI n, M') ∧ CVS M' 70 S' ∧ WKR M' S0 (n + 1) (kup κ n S') (dup d n a) sl' ∧ (∀ j, j ≠ 10 → M' 100 j = M 100 j) ∧ (∀ x, (x < 70 ∨ 90 ≤ x) → x ≠ 100 → (x < 102 ∨ 106 < x) → M' x = M x)) ∨ ((∀ s, s < n → ¬ KEQ (κ s) S') ∧ n = 250 ∧ ∃ M', xX10_enter 70 (nI a) M = some (-1, M') ∧ CVS M' 70 S' ∧ M' 100 16 = nI 1 ∧ (∀ x, (x < 70 ∨ 90 ≤ x) → x ≠ 100 → M' x = M x) ∧ (∀ j, j ≠ 16 → M' 100 j = M 100 j)))) := by
  have hq0 := INV_q hS.1
  have v8 : M 70 8 = nI (S 1 7) := hV 0 8 (by omega) (Nat.le_refl _) (by show 8 < 15; omega)
  by_cases c24 : S 1 7 ≤ 24
  · right
    refine ⟨c24, ?_⟩
    obtain ⟨S', e1, p1, s1⟩ := x_sort (N := M) (t := 70) (S := S) (by omega) hS.1
    rw [xs_self hV] at e1
    have hS' := NOD_prm hS p1
    have V1 : CVS (XS M 70 S') 70 S' := CVS_xs
    have fo : ∀ x, (x < 70 ∨ 90 ≤ x) → XS M 70 S' x = M x := fun x hx => xs_o (by omega)
    have hw1 : WKR (XS M 70 S') S0 n κ d sl := WKR_e hw (by rw [fo 100 (by omega)]) (by rw [fo 100 (by omega)]) (fun x _ _ => fo x (by omega))
    have n6 := g_n hS.1.1
    rw [hS.2.1.1] at n6
    have h7 : S' 1 7 = S 1 7 := p1.1 1 7 (by omega)
    have e2 : xX10_enter 70 (nI a) M = xX10_enter_40 70 fu (nI a) (nI (hq S' (16 * (S0 1 0 + 1)))) (nI 0) (XS M 70 S') := by
      unfold xX10_enter
      rw [v8, e_oli2, if_pos (by rw [e_le (by omega) (by omega)]; exact c24), e_oli2, e1, e_obv2, x_hash (u := 16 * (S0 1 0 + 1)) hw.2.2.1 (by omega) (by omega), e_obi2, hq_ok.1]
    have hl := (hq_ok (S := S') (u := 16 * (S0 1 0 + 1))).2
    rw [show fu = 998975 + 1024 + 1 by unfold fu; omega, show nI (hq S' (16 * (S0 1 0 + 1))) = nI ((hq S' (16 * (S0 1 0 + 1)) + 0) % 1024) by rw [show (hq S' (16 * (S0 1 0 + 1)) + 0) % 1024 = hq S' (16 * (S0 1 0 + 1)) by omega]] at e2
    refine ⟨S', p1, ?_⟩
    rcases x_e40 (k := 998975) (a := a) hw1 V1 hS' s1 1024 0 (by omega) (fun e' h' => absurd h' (Nat.not_lt_zero _)) with ⟨s, hs, hk, e3⟩ | ⟨hne, e0, g1, g2, g3, e3⟩
    · exact Or.inl ⟨s, _, hs, hk, by rw [e2, e3], V1, fo⟩
    · obtain ⟨w1, w2⟩ := x_e96 (a := a) (q := (hq S' (16 * (S0 1 0 + 1)) + e0) % 1024) hw1 V1 hS' (by omega) (by omega)
      by_cases cn : n < 250
      · obtain ⟨M', e4, f1, f2, f3, f4, f5, f6, f7, f8⟩ := w1 cn
        obtain ⟨sl', hw'⟩ := WKR_new hw1 cn hS' s1 (by omega) f2 f3 f5 f6 f7 f8 g1 g2 g3
        refine Or.inr (Or.inl ⟨hne, cn, s1, M', sl', by rw [e2, e3, e4], CVS_e V1 (fun x h1 h2 => f1 x (by omega)), hw', fun j hj => by rw [f3 j hj, fo 100 (by omega)], fun x h1 h2 h3 => by rw [f4 x h2 h3, fo x h1]⟩)
      · have n250 : n = 250 := by have := hw.1; omega
        refine Or.inr (Or.inr ⟨hne, n250, _, by rw [e2, e3, w2 n250], CVS_e V1 (fun x h1 h2 => mw_oth (by omega)), mw_at (by omega), fun x hx hx2 => ?_, fun j hj => ?_⟩)
        · show mw (XS M 70 S') 100 16 (nI 1) x = M x
          rw [mw_oth hx2, fo x hx]
        · show mw (XS M 70 S') 100 16 (nI 1) 100 j = M 100 j
          rw [mw_ne hj, fo 100 (by omega)]
  · left
    refine ⟨by omega, ?_⟩
    unfold xX10_enter
    rw [v8, e_oli2, if_neg (by rw [e_le (by omega) (by omega)]; omega), e_gz1, e_oml2]
