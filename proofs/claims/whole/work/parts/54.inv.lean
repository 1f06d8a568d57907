/-! ===== sums over the messages; what always holds ===== -/
def sm (g : Nat → Nat) : Nat → Nat
  | 0 => 0
  | n + 1 => sm g n + g n
theorem sm_s {g : Nat → Nat} {n : Nat} : sm g (n + 1) = sm g n + g n := rfl
theorem sm_c {g g' : Nat → Nat} : ∀ (n : Nat), (∀ i, i < n → g i = g' i) → sm g n = sm g' n
  | 0, _ => rfl
  | n + 1, h => by rw [sm_s, sm_s, sm_c n (fun i hi => h i (by omega)), h n (by omega)]
theorem sm_le {g g' : Nat → Nat} : ∀ (n : Nat), (∀ i, i < n → g i ≤ g' i) → sm g n ≤ sm g' n
  | 0, _ => Nat.le_refl _
  | n + 1, h => by
    have e := sm_le n (fun i hi => h i (by omega))
    have e2 := h n (by omega)
    rw [sm_s, sm_s]; omega
theorem sm_add {g g' : Nat → Nat} : ∀ (n : Nat), sm (fun i => g i + g' i) n = sm g n + sm g' n
  | 0 => rfl
  | n + 1 => by rw [sm_s, sm_s, sm_s, sm_add n]; omega
theorem sm_0 : ∀ (n : Nat), sm (fun _ => 0) n = 0
  | 0 => rfl
  | n + 1 => by rw [sm_s, sm_0 n]
theorem sm_1 : ∀ (n : Nat), sm (fun _ => 1) n = n
  | 0 => rfl
  | n + 1 => by rw [sm_s, sm_1 n]
theorem sm_one {g g' : Nat → Nat} {k : Nat} : ∀ (n : Nat), k < n → (∀ i, i < n → i ≠ k → g' i = g i) → sm g' n + g k = sm g n + g' k
  | 0, h, _ => by omega
  | n + 1, h, he => by
    rw [sm_s, sm_s]
    by_cases hk : k = n
    · subst hk
      rw [sm_c k (fun i hi => he i (by omega) (by omega))]
      omega
    · have e := sm_one n (by omega) (fun i hi hn => he i (by omega) hn)
      have e2 := he n (by omega) (by omega)
      omega
theorem sm_rm {g g' : Nat → Nat} {k : Nat} : ∀ (n : Nat), k < n + 1 → (∀ i, i < n → g' i = if i < k then g i else g (i + 1)) → sm g' n + g k = sm g (n + 1)
  | 0, h, _ => by
    rw [sm_s, show k = 0 by omega]
    rfl
  | n + 1, h, he => by
    rw [sm_s, sm_s (g := g)]
    by_cases hk : k = n + 1
    · subst hk
      rw [sm_c (g' := g) n (fun i hi => by rw [he i (by omega), if_pos (by omega)]), he n (by omega), if_pos (by omega), sm_s]
    · have e := sm_rm n (by omega) (fun i hi => he i (by omega))
      have e2 := he n (by omega)
      rw [if_neg (by omega)] at e2
      omega
theorem sm_f {g : Nat → Nat} : ∀ (n : Nat), sm g (n + 1) = g 0 + sm (fun i => g (i + 1)) n
  | 0 => by rw [sm_s]; show 0 + g 0 = g 0 + 0; omega
  | n + 1 => by rw [sm_s, sm_f n, sm_s]; omega
theorem cn_sm {P : Nat → Prop} [DecidablePred P] : ∀ (m k : Nat), cn P m k = sm (fun i => if P (k + i) then 1 else 0) m
  | 0, _ => rfl
  | m + 1, k => by
    rw [cn_s, sm_f, cn_sm m (k + 1)]
    congr 1
    apply sm_c
    intro i _
    rw [show k + 1 + i = k + (i + 1) by omega]
/-- the fields of a message -/
def fd (S : a_S) (i : Nat) : Nat → Nat := fun j => S 586 (9 * i + j)
def mq (S : a_S) (φ : (Nat → Nat) → Nat) : Nat := sm (fun i => φ (fd S i)) (S 1 7)
def gp (φ : (Nat → Nat) → Nat) : Prop := ∀ g g' : Nat → Nat, (∀ j, j < 9 → g j = g' j) → φ g = φ g'
def wt (l : Nat) (g : Nat → Nat) : Nat := if g 3 = l then g 4 else 0
def wa (g : Nat → Nat) : Nat := if g 2 ≤ 2 then 1 else 0
def wk (k c : Nat) (g : Nat → Nat) : Nat := if g 0 = c ∧ g 2 = k then 1 else 0
theorem gp_t (l : Nat) : gp (wt l) := by
  intro g g' h
  unfold wt
  rw [h 3 (by omega), h 4 (by omega)]
theorem gp_a : gp wa := by
  intro g g' h
  unfold wa
  rw [h 2 (by omega)]
theorem gp_k (k c : Nat) : gp (wk k c) := by
  intro g g' h
  unfold wk
  rw [h 0 (by omega), h 2 (by omega)]
theorem fd_send {S : a_S} {f t k l mn ow wi nt wh j : Nat} (hj : j < 9) : fd (a_send S f t k l mn ow wi nt wh) (S 1 7) j = fl9 f t k l mn ow wi nt wh j := as_f hj
theorem fd_old {S : a_S} {f t k l mn ow wi nt wh i j : Nat} (hi : i < S 1 7) (hj : j < 9) : fd (a_send S f t k l mn ow wi nt wh) i j = fd S i j := as_e (by omega)
theorem mq_send {S : a_S} {f t k l mn ow wi nt wh : Nat} {φ : (Nat → Nat) → Nat} (hφ : gp φ) : mq (a_send S f t k l mn ow wi nt wh) φ = mq S φ + φ (fl9 f t k l mn ow wi nt wh) := by
  unfold mq
  rw [as_7, sm_s, hφ _ _ (fun j hj => fd_send hj), sm_c _ (fun i hi => hφ _ _ (fun j hj => fd_old hi hj))]
theorem mq_c {S S' : a_S} {φ : (Nat → Nat) → Nat} (h : ∀ i, S' 586 i = S 586 i) (h7 : S' 1 7 = S 1 7) : mq S' φ = mq S φ := by
  unfold mq fd
  rw [h7]
  simp only [h]
theorem fd_rm {S : a_S} {i k j : Nat} (hk : k < S 1 7 - 1) (hj : j < 9) : fd (a_rm S i) k j = if k < i then fd S k j else fd S (k + 1) j := by
  unfold fd a_rm
  rw [if_pos rfl]
  by_cases h : k < i
  · rw [if_pos h, if_neg (by omega)]
  · rw [if_neg h, if_pos (by omega), show 9 * (k + 1) + j = 9 * k + j + 9 by omega]
theorem mq_rm {S : a_S} {i : Nat} {φ : (Nat → Nat) → Nat} (hφ : gp φ) (hi : i < S 1 7) : mq (a_rm S i) φ + φ (fd S i) = mq S φ := by
  obtain ⟨n, hn⟩ : ∃ n, S 1 7 = n + 1 := ⟨S 1 7 - 1, by omega⟩
  unfold mq
  rw [rm_7, hn, Nat.add_sub_cancel]
  refine sm_rm (g := fun i => φ (fd S i)) n (by omega) (fun k hk => ?_)
  show φ (fd (a_rm S i) k) = _
  by_cases h : k < i
  · rw [if_pos h]
    exact hφ _ _ (fun j hj => by rw [fd_rm (by omega) hj, if_pos h])
  · rw [if_neg h]
    exact hφ _ _ (fun j hj => by rw [fd_rm (by omega) hj, if_neg h])
theorem mq_in {S : a_S} {i : Nat} {φ : (Nat → Nat) → Nat} (hφ : gp φ) (hi : i < S 1 7) : φ (fd S i) ≤ mq S φ := by
  have := mq_rm hφ hi
  omega
theorem mq_ask {S : a_S} : a_asking S = mq S wa := by
  unfold a_asking mq
  rw [cn_sm]
  apply sm_c
  intro i _
  unfold wa fd
  rw [Nat.zero_add]
/-- a message as it must be -/
def VMf (N : Nat) (g : Nat → Nat) : Prop := 1 ≤ g 2 ∧ g 2 ≤ 5 ∧ (g 2 = 3 → 1 ≤ g 4 ∧ g 7 = 0 ∧ g 8 = 0) ∧ (g 2 ≠ 3 → g 4 = 0 ∧ g 5 = 0 ∧ g 6 = 0 ∧ g 0 < 6) ∧ (g 2 ≤ 2 → g 7 = 0 ∧ g 8 = 0) ∧ (g 2 = 5 → g 8 = 0) ∧ g 0 ≠ g 1 ∧ (g 0 < N ∨ g 0 = 6) ∧ (g 1 < N ∨ g 1 = 6)
theorem VMf_c {N : Nat} {g g' : Nat → Nat} (h : VMf N g) (he : ∀ j, j < 9 → g' j = g j) : VMf N g' := by
  unfold VMf at h ⊢
  rw [he 0 (by omega), he 1 (by omega), he 2 (by omega), he 4 (by omega), he 5 (by omega), he 6 (by omega), he 7 (by omega), he 8 (by omega)]
  exact h
def VM (S : a_S) : Prop := ∀ i, i < S 1 7 → VMf (S 1 0) (fd S i)
theorem VM_c {S S' : a_S} (hv : VM S) (h : ∀ i, S' 586 i = S 586 i) (h7 : S' 1 7 = S 1 7) (h0 : S' 1 0 = S 1 0) : VM S' := by
  intro i hi
  rw [h0]
  exact VMf_c (hv i (by omega)) (fun j _ => h _)
theorem VM_send {S : a_S} {f t k l mn ow wi nt wh : Nat} (hv : VM S) (h : VMf (S 1 0) (fl9 f t k l mn ow wi nt wh)) : VM (a_send S f t k l mn ow wi nt wh) := by
  intro i hi
  rw [as_7] at hi
  rw [as_1 (by omega)]
  by_cases hi9 : i = S 1 7
  · rw [hi9]
    exact VMf_c h (fun j hj => fd_send hj)
  · exact VMf_c (hv i (by omega)) (fun j hj => fd_old (by omega) hj)
theorem VM_rm {S : a_S} {i : Nat} (hv : VM S) (hi : i < S 1 7) : VM (a_rm S i) := by
  intro k hk
  rw [rm_7] at hk
  rw [rm_1 (by omega)]
  by_cases h : k < i
  · exact VMf_c (hv k (by omega)) (fun j hj => by rw [fd_rm hk hj, if_pos h])
  · exact VMf_c (hv (k + 1) (by omega)) (fun j hj => by rw [fd_rm hk hj, if_neg h])
def tkn (S : a_S) (l : Nat) : Nat := sm (fun n => S 14 (8 * n + l)) 7 + mq S (wt l)
def UM (S : a_S) : Prop := ∀ c, c < 6 → (∀ k, k < S 238 c → S 14 (8 * c + S 244 (8 * c + k)) ≠ 0) ∧ (∀ k, S 238 c ≤ k → k < 8 → S 244 (8 * c + k) = 0)
def TK (S : a_S) (h : Nat → Nat) : Prop := ∀ l, l < 8 → tkn S l + h l = S 1 1
def KC (S : a_S) : Prop := mq S wa ≤ 60 ∧ ∀ c, c < 6 → mq S (wk 4 c) ≤ 6 ∧ mq S (wk 5 c) ≤ 6 ∧ (S 310 c = 1 → mq S (wk 5 c) = 0)
def SC (S : a_S) : Prop := 2 ≤ S 1 0 ∧ S 1 0 ≤ S 1 1 ∧ 1 ≤ S 1 2 ∧ 1 ≤ S 1 4
def MS (S : a_S) : Prop := ∀ c, c < 6 → (S 292 c = 0 → S 298 c = 0 ∧ S 304 c = 0 ∧ S 310 c = 0) ∧ (S 292 c ≠ 0 → 1 ≤ S 298 c ∧ c < S 1 0)
def HG (S : a_S) : Prop := ∀ c l, c < 6 → l < 8 → S 538 (8 * c + l) ≠ c + 1 ∧ S 6766 (8 * c + l) / 2 ^ c % 2 = 0
def TI (S : a_S) : Prop := ∀ c, c < 6 → S 532 c ≤ S 1 5 ∧ S 6730 c ≤ S 1 5 ∧ S 316 (6 * c + c) ≤ S 1 5
def SU (S : a_S) : Prop := S 1 9 = sm (fun c => S 6736 (5 * c)) 6 ∧ S 1 10 = sm (fun c => S 6736 (5 * c + 1)) 6 ∧ S 1 11 = sm (fun c => S 6736 (5 * c + 4)) 6
def INV (S : a_S) (h : Nat → Nat) : Prop := RG S ∧ UD S ∧ UM S ∧ VM S ∧ TK S h ∧ KC S ∧ SC S ∧ MS S ∧ HG S ∧ TI S ∧ SU S
theorem UM_c {S S' : a_S} (h : UM S) (h1 : ∀ i, S' 238 i = S 238 i) (h2 : ∀ i, S' 244 i = S 244 i) (h3 : ∀ i, S' 14 i = S 14 i) : UM S' := by
  intro c hc
  simp only [h1, h2, h3]
  exact h c hc
theorem TK_c {S S' : a_S} {h : Nat → Nat} (ht : TK S h) (h1 : ∀ i, S' 586 i = S 586 i) (h7 : S' 1 7 = S 1 7) (h3 : ∀ i, S' 14 i = S 14 i) (hT : S' 1 1 = S 1 1) : TK S' h := by
  intro l hl
  rw [hT, ← ht l hl]
  unfold tkn
  rw [mq_c h1 h7]
  simp only [h3]
theorem KC_c {S S' : a_S} (h : KC S) (h1 : ∀ i, S' 586 i = S 586 i) (h7 : S' 1 7 = S 1 7) (h3 : ∀ i, S' 310 i = S 310 i) : KC S' := by
  refine ⟨by rw [mq_c h1 h7]; exact h.1, fun c hc => ?_⟩
  rw [mq_c h1 h7, mq_c h1 h7, h3]
  exact h.2 c hc
theorem SC_c {S S' : a_S} (h : SC S) (h1 : ∀ i, i < 5 → S' 1 i = S 1 i) : SC S' := by
  unfold SC at h ⊢
  rw [h1 0 (by omega), h1 1 (by omega), h1 2 (by omega), h1 4 (by omega)]
  exact h
theorem MS_c {S S' : a_S} (h : MS S) (h1 : ∀ i, S' 292 i = S 292 i) (h2 : ∀ i, S' 298 i = S 298 i) (h3 : ∀ i, S' 304 i = S 304 i) (h4 : ∀ i, S' 310 i = S 310 i) (h5 : S' 1 0 = S 1 0) : MS S' := by
  intro c hc
  rw [h1, h2, h3, h4, h5]
  exact h c hc
theorem HG_c {S S' : a_S} (h : HG S) (h1 : ∀ i, S' 538 i = S 538 i) (h2 : ∀ i, S' 6766 i = S 6766 i) : HG S' := by
  intro c l hc hl
  rw [h1, h2]
  exact h c l hc hl
theorem TI_c {S S' : a_S} (h : TI S) (h1 : ∀ i, S' 532 i = S 532 i) (h2 : ∀ i, S' 6730 i = S 6730 i) (h3 : ∀ c, c < 6 → S' 316 (6 * c + c) = S 316 (6 * c + c)) (h5 : S' 1 5 = S 1 5) : TI S' := by
  intro c hc
  rw [h1, h2, h3 c hc, h5]
  exact h c hc
theorem SU_c {S S' : a_S} (h : SU S) (h1 : ∀ i, S' 6736 i = S 6736 i) (h9 : S' 1 9 = S 1 9) (h10 : S' 1 10 = S 1 10) (h11 : S' 1 11 = S 1 11) : SU S' := by
  unfold SU at h ⊢
  simp only [h1, h9, h10, h11]
  exact h
/-- of what decides nothing -/
theorem INV_log {S S' : a_S} {h : Nat → Nat} (hi : INV S h) (hr : RG S') (hd : ∀ r i, r = 14 ∨ r = 238 ∨ r = 244 ∨ r = 586 ∨ r = 292 ∨ r = 298 ∨ r = 304 ∨ r = 310 ∨ r = 538 ∨ r = 6766 ∨ r = 532 ∨ r = 6730 ∨ r = 316 ∨ r = 6736 → S' r i = S r i) (h1 : ∀ i, i < 12 → i ≠ 6 → i ≠ 8 → S' 1 i = S 1 i) : INV S' h := by
  obtain ⟨_, i2, i3, i4, i5, i6, i7, i8, i9, i10, i11⟩ := hi
  refine ⟨hr, UD_c i2 (fun i => hd 238 i (by omega)) (fun i => hd 244 i (by omega)), UM_c i3 (fun i => hd 238 i (by omega)) (fun i => hd 244 i (by omega)) (fun i => hd 14 i (by omega)), VM_c i4 (fun i => hd 586 i (by omega)) (h1 7 (by omega) (by omega) (by omega)) (h1 0 (by omega) (by omega) (by omega)), TK_c i5 (fun i => hd 586 i (by omega)) (h1 7 (by omega) (by omega) (by omega)) (fun i => hd 14 i (by omega)) (h1 1 (by omega) (by omega) (by omega)), KC_c i6 (fun i => hd 586 i (by omega)) (h1 7 (by omega) (by omega) (by omega)) (fun i => hd 310 i (by omega)), SC_c i7 (fun i hi => h1 i (by omega) (by omega) (by omega)), MS_c i8 (fun i => hd 292 i (by omega)) (fun i => hd 298 i (by omega)) (fun i => hd 304 i (by omega)) (fun i => hd 310 i (by omega)) (h1 0 (by omega) (by omega) (by omega)), HG_c i9 (fun i => hd 538 i (by omega)) (fun i => hd 6766 i (by omega)), TI_c i10 (fun i => hd 532 i (by omega)) (fun i => hd 6730 i (by omega)) (fun c _ => hd 316 _ (by omega)) (h1 5 (by omega) (by omega) (by omega)), SU_c i11 (fun i => hd 6736 i (by omega)) (h1 9 (by omega) (by omega) (by omega)) (h1 10 (by omega) (by omega) (by omega)) (h1 11 (by omega) (by omega) (by omega))⟩
theorem sm_8 {g : Nat → Nat} : sm g 8 = g 0 + g 1 + g 2 + g 3 + g 4 + g 5 + g 6 + g 7 := by
  simp only [sm]; omega
theorem sm_6 {g : Nat → Nat} : sm g 6 = g 0 + g 1 + g 2 + g 3 + g 4 + g 5 := by
  simp only [sm]; omega
/-- there are never more messages -/
theorem INV_q {S : a_S} {h : Nat → Nat} (hi : INV S h) : S 1 7 ≤ 228 := by
  obtain ⟨i1, _, _, i4, i5, i6, i7, _, _, _, _⟩ := hi
  have hT := g_T i1
  have e : sm (fun _ => 1) (S 1 7) ≤ sm (fun i => wa (fd S i) + (sm (fun l => wt l (fd S i)) 8 + (sm (fun c => wk 4 c (fd S i)) 6 + sm (fun c => wk 5 c (fd S i)) 6))) (S 1 7) := by
    apply sm_le
    intro i hi
    have hv := i4 i hi
    have hg := g_f i1 i
    have l3 : fd S i 3 < 8 := hg.2.2.2.1
    unfold VMf at hv
    rw [sm_8, sm_6, sm_6]
    unfold wa wt wk
    by_cases k2 : fd S i 2 ≤ 2
    · rw [if_pos k2]; omega
    · by_cases k3 : fd S i 2 = 3
      · have := (hv.2.2.1 k3).1
        have l9 : fd S i 3 = 0 ∨ fd S i 3 = 1 ∨ fd S i 3 = 2 ∨ fd S i 3 = 3 ∨ fd S i 3 = 4 ∨ fd S i 3 = 5 ∨ fd S i 3 = 6 ∨ fd S i 3 = 7 := by omega
        rcases l9 with l9 | l9 | l9 | l9 | l9 | l9 | l9 | l9 <;> rw [l9] <;> simp <;> omega
      · have h6 := (hv.2.2.2.1 k3).2.2.2
        have c9 : fd S i 0 = 0 ∨ fd S i 0 = 1 ∨ fd S i 0 = 2 ∨ fd S i 0 = 3 ∨ fd S i 0 = 4 ∨ fd S i 0 = 5 := by omega
        have k45 : fd S i 2 = 4 ∨ fd S i 2 = 5 := by omega
        rcases k45 with k9 | k9 <;> rcases c9 with c9 | c9 | c9 | c9 | c9 | c9 <;> simp [c9, k9]
  rw [sm_1, sm_add, sm_add, sm_add] at e
  have sw8 : ∀ (F : Nat → (Nat → Nat) → Nat) (m n : Nat), sm (fun i => sm (fun l => F l (fd S i)) m) n = sm (fun l => sm (fun i => F l (fd S i)) n) m := by
    intro F m n
    induction m with
    | zero => exact sm_0 n
    | succ m ih => rw [sm_s, ← ih, ← sm_add]; rfl
  rw [sw8 wt, sw8 (wk 4), sw8 (wk 5)] at e
  have e8 : sm (fun l => sm (fun i => wt l (fd S i)) (S 1 7)) 8 ≤ sm (fun _ => 12) 8 := sm_le 8 (fun l hl => by
    have := i5 l hl
    unfold tkn mq at this
    omega)
  have e4 : sm (fun l => sm (fun i => wk 4 l (fd S i)) (S 1 7)) 6 ≤ sm (fun _ => 6) 6 := sm_le 6 (fun c hc => (i6.2 c hc).1)
  have e5 : sm (fun l => sm (fun i => wk 5 l (fd S i)) (S 1 7)) 6 ≤ sm (fun _ => 6) 6 := sm_le 6 (fun c hc => (i6.2 c hc).2.1)
  have ea := i6.1
  unfold mq at ea
  have c12 : sm (fun _ => 12) 8 = 96 := rfl
  have c6 : sm (fun _ => 6) 6 = 36 := rfl
  omega
