/-- what a new Caches object (with its Log) of id t holds -/
def ini_c (t x j : Nat) : Int32 := if x = t then (if j = 9 then 3 else if j = 10 then 8 else if j = 11 then 4 else if j = 13 then 6 else 0) else if x = t + 1 then (if j < 8 then 56 else 0) else if x = t + 3 then -1 else 0
def al_kept (M : j_M) : j_M := fun x j => if x = 0 then (if j = 2 then 1 else M x j) else if 40 ≤ x ∧ x < 67 then ini_c 41 x j else M x j
def al_thought (M : j_M) : j_M := fun x j => if x = 0 then (if j = 3 then 1 else M x j) else if 70 ≤ x ∧ x < 90 then ini_c 70 x j else M x j
def al_walker (M : j_M) : j_M := fun x j => if x = 0 then (if j = 4 then 1 else M x j) else if 100 ≤ x ∧ x < 111 then 0 else M x j
def g0 {ρ : Type} (v : Int32) (X : Option ρ) : Option ρ := if v = 0 then X else none
section JR
variable {ll : List (Nat × j_V)} {M : j_M} {fr lo : Nat}
theorem K_new_kept {XM : j_M → Option (Int32 × j_M)} (h : ∀ M1, J yX11_image cX11_image 2 (some .boolean) fr lo j_ei 22 ll [] M1 (XM M1)) : J yX11_image cX11_image 2 (some .boolean) fr lo j_ei 12 ll [.inr (16, 0, 0)] M (g0 (M 0 2) (oml (al_kept M) XM)) := sorry
theorem K_new_walker {XM : j_M → Option (Int32 × j_M)} (h : ∀ M1, J yX11_walk cX11_walk 2 (some .int) fr lo j_ei 33 ll [] M1 (XM M1)) : J yX11_walk cX11_walk 2 (some .int) fr lo j_ei 23 ll [.inr (16, 0, 0)] M (g0 (M 0 4) (oml (al_walker M) XM)) := sorry
theorem K_new_thought {XM : j_M → Option j_M} (h : ∀ M1, J yX11_prepareThought cX11_prepareThought 1 none fr lo j_ev 25 ll [] M1 (XM M1)) : J yX11_prepareThought cX11_prepareThought 1 none fr lo j_ev 8 ll [.inr (16, 0, 0)] M (g0 (M 0 3) (oml (al_thought M) XM)) := sorry
end JR
