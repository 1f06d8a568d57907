def s_low : List Int32 := [0, 0, 0, 0, 1, 1, 0, 1, 1, 1, 1, 1, 0]
def s_high : List Int32 := [0, 7, 7, 7, 9, 9, 7, 50, 50, 99, 60, 60, 3]
def s_sec : List Int32 := [-1, -1, 9999, 9999, -1, -1, -1, -1, -1, -1, -1, 2, -1]
/-- the memory at the start: what is only read -/
def k0 (xs : Nat → Int32) : j_M := fun x j => if x = 310 then xs j else if x = 300 then s_low.getD j 0 else if x = 301 then s_high.getD j 0 else if x = 302 then s_sec.getD j 0 else 0
def s_tm (i : Nat) : Term := match j_txt[i]? with
  | some q => .string q.1 q.2.1
  | none => .string "" 0
def s_fl : List Cond := flatC (Jvm.Cond.and given_1 narrow_1)
theorem s_low_e : ∀ j, j < 13 → Cond.eq (.elem (.static RX0 "LOWEST" "[I") (.int (Int32.ofNat j))) (.int (s_low.getD j 0)) ∈ s_fl := by decide +kernel
theorem s_low_a : Cond.arrayOf (.static RX0 "LOWEST" "[I") .int ∈ s_fl := by decide +kernel
theorem s_low_l : Cond.eq (.length (.static RX0 "LOWEST" "[I")) (.int (Int32.ofNat 13)) ∈ s_fl := by decide +kernel
theorem s_high_e : ∀ j, j < 13 → Cond.eq (.elem (.static RX0 "HIGHEST" "[I") (.int (Int32.ofNat j))) (.int (s_high.getD j 0)) ∈ s_fl := by decide +kernel
theorem s_high_a : Cond.arrayOf (.static RX0 "HIGHEST" "[I") .int ∈ s_fl := by decide +kernel
theorem s_high_l : Cond.eq (.length (.static RX0 "HIGHEST" "[I")) (.int (Int32.ofNat 13)) ∈ s_fl := by decide +kernel
theorem s_sec_e : ∀ j, j < 13 → Cond.eq (.elem (.static RX0 "SECOND" "[I") (.int (Int32.ofNat j))) (.int (s_sec.getD j 0)) ∈ s_fl := by decide +kernel
theorem s_sec_a : Cond.arrayOf (.static RX0 "SECOND" "[I") .int ∈ s_fl := by decide +kernel
theorem s_sec_l : Cond.eq (.length (.static RX0 "SECOND" "[I")) (.int (Int32.ofNat 13)) ∈ s_fl := by decide +kernel
theorem s_kw_e : ∀ j, j < 13 → Cond.eq (.elem (.static RX8 "KEYWORDS" "[J") (.int (Int32.ofNat j))) (.long (j_kws.getD j 0)) ∈ s_fl := by decide +kernel
theorem s_kw_a : Cond.arrayOf (.static RX8 "KEYWORDS" "[J") .long ∈ s_fl := by decide +kernel
theorem s_kw_l : Cond.eq (.length (.static RX8 "KEYWORDS" "[J")) (.int (Int32.ofNat 13)) ∈ s_fl := by decide +kernel
theorem s_t1 : ∀ i, i < 12 → Cond.exactly (s_tm i) "java/lang/String" ∈ s_fl := by decide +kernel
theorem s_t2 : ∀ i, i < 12 → Cond.eq (.field (s_tm i) "java/lang/String" "coder" "B") (.int 0) ∈ s_fl := by decide +kernel
theorem s_t3 : ∀ i, i < 12 → Cond.arrayOf (.field (s_tm i) "java/lang/String" "value" "[B") .byte ∈ s_fl := by decide +kernel
theorem s_t4 : ∀ i, i < 12 → Cond.eq (.length (.field (s_tm i) "java/lang/String" "value" "[B")) (.int (Int32.ofNat (j_len.getD i 0))) ∈ s_fl := by decide +kernel
theorem s_q5_0 : ∀ j, j < 5 → s_fl[[104, 105, 106, 107, 108].getD j 0]? = some (Cond.eq (.elem (.field (s_tm 0) "java/lang/String" "value" "[B") (.int (Int32.ofNat j))) (.int ((j_byt.getD 0 []).getD j 0))) := by decide +kernel
theorem s_q5_1 : ∀ j, j < 7 → s_fl[[116, 117, 118, 119, 120, 121, 122].getD j 0]? = some (Cond.eq (.elem (.field (s_tm 1) "java/lang/String" "value" "[B") (.int (Int32.ofNat j))) (.int ((j_byt.getD 1 []).getD j 0))) := by decide +kernel
theorem s_q5_2 : ∀ j, j < 4 → s_fl[[131, 132, 133, 134].getD j 0]? = some (Cond.eq (.elem (.field (s_tm 2) "java/lang/String" "value" "[B") (.int (Int32.ofNat j))) (.int ((j_byt.getD 2 []).getD j 0))) := by decide +kernel
theorem s_q5_3 : ∀ j, j < 4 → s_fl[[144, 145, 146, 147].getD j 0]? = some (Cond.eq (.elem (.field (s_tm 3) "java/lang/String" "value" "[B") (.int (Int32.ofNat j))) (.int ((j_byt.getD 3 []).getD j 0))) := by decide +kernel
theorem s_q5_4 : ∀ j, j < 4 → s_fl[[158, 159, 160, 161].getD j 0]? = some (Cond.eq (.elem (.field (s_tm 4) "java/lang/String" "value" "[B") (.int (Int32.ofNat j))) (.int ((j_byt.getD 4 []).getD j 0))) := by decide +kernel
theorem s_q5_5 : ∀ j, j < 2 → s_fl[[173, 174].getD j 0]? = some (Cond.eq (.elem (.field (s_tm 5) "java/lang/String" "value" "[B") (.int (Int32.ofNat j))) (.int ((j_byt.getD 5 []).getD j 0))) := by decide +kernel
theorem s_q5_6 : ∀ j, j < 6 → s_fl[[187, 188, 189, 190, 191, 192].getD j 0]? = some (Cond.eq (.elem (.field (s_tm 6) "java/lang/String" "value" "[B") (.int (Int32.ofNat j))) (.int ((j_byt.getD 6 []).getD j 0))) := by decide +kernel
theorem s_q5_7 : ∀ j, j < 4 → s_fl[[77, 78, 79, 80].getD j 0]? = some (Cond.eq (.elem (.field (s_tm 7) "java/lang/String" "value" "[B") (.int (Int32.ofNat j))) (.int ((j_byt.getD 7 []).getD j 0))) := by decide +kernel
theorem s_q5_8 : ∀ j, j < 5 → s_fl[[85, 86, 87, 88, 89].getD j 0]? = some (Cond.eq (.elem (.field (s_tm 8) "java/lang/String" "value" "[B") (.int (Int32.ofNat j))) (.int ((j_byt.getD 8 []).getD j 0))) := by decide +kernel
theorem s_q5_9 : ∀ j, j < 3 → s_fl[[95, 96, 97].getD j 0]? = some (Cond.eq (.elem (.field (s_tm 9) "java/lang/String" "value" "[B") (.int (Int32.ofNat j))) (.int ((j_byt.getD 9 []).getD j 0))) := by decide +kernel
theorem s_q5_10 : ∀ j, j < 4 → s_fl[[206, 207, 208, 209].getD j 0]? = some (Cond.eq (.elem (.field (s_tm 10) "java/lang/String" "value" "[B") (.int (Int32.ofNat j))) (.int ((j_byt.getD 10 []).getD j 0))) := by decide +kernel
theorem s_q5_11 : ∀ j, j < 5 → s_fl[[224, 225, 226, 227, 228].getD j 0]? = some (Cond.eq (.elem (.field (s_tm 11) "java/lang/String" "value" "[B") (.int (Int32.ofNat j))) (.int ((j_byt.getD 11 []).getD j 0))) := by decide +kernel
theorem s_t5 : ∀ i, i < 12 → ∀ j, j < j_len.getD i 0 → Cond.eq (.elem (.field (s_tm i) "java/lang/String" "value" "[B") (.int (Int32.ofNat j))) (.int ((j_byt.getD i []).getD j 0)) ∈ s_fl := fun i hi j hj => by
  match i, hi with
  | 0, _ => exact List.mem_of_getElem? (s_q5_0 j hj)
  | 1, _ => exact List.mem_of_getElem? (s_q5_1 j hj)
  | 2, _ => exact List.mem_of_getElem? (s_q5_2 j hj)
  | 3, _ => exact List.mem_of_getElem? (s_q5_3 j hj)
  | 4, _ => exact List.mem_of_getElem? (s_q5_4 j hj)
  | 5, _ => exact List.mem_of_getElem? (s_q5_5 j hj)
  | 6, _ => exact List.mem_of_getElem? (s_q5_6 j hj)
  | 7, _ => exact List.mem_of_getElem? (s_q5_7 j hj)
  | 8, _ => exact List.mem_of_getElem? (s_q5_8 j hj)
  | 9, _ => exact List.mem_of_getElem? (s_q5_9 j hj)
  | 10, _ => exact List.mem_of_getElem? (s_q5_10 j hj)
  | 11, _ => exact List.mem_of_getElem? (s_q5_11 j hj)
  | i + 12, hi => exact absurd hi (by omega)
theorem s_n_0_1 : Cond.not (Cond.eq (s_tm 0) (s_tm 1)) ∈ s_fl := List.mem_of_getElem? (i := 126) (by decide +kernel)
theorem s_n_0_2 : Cond.not (Cond.eq (s_tm 0) (s_tm 2)) ∈ s_fl := List.mem_of_getElem? (i := 138) (by decide +kernel)
theorem s_n_0_3 : Cond.not (Cond.eq (s_tm 0) (s_tm 3)) ∈ s_fl := List.mem_of_getElem? (i := 151) (by decide +kernel)
theorem s_n_0_4 : Cond.not (Cond.eq (s_tm 0) (s_tm 4)) ∈ s_fl := List.mem_of_getElem? (i := 165) (by decide +kernel)
theorem s_n_0_5 : Cond.not (Cond.eq (s_tm 0) (s_tm 5)) ∈ s_fl := List.mem_of_getElem? (i := 178) (by decide +kernel)
theorem s_n_0_6 : Cond.not (Cond.eq (s_tm 0) (s_tm 6)) ∈ s_fl := List.mem_of_getElem? (i := 196) (by decide +kernel)
theorem s_n_0_10 : Cond.not (Cond.eq (s_tm 0) (s_tm 10)) ∈ s_fl := List.mem_of_getElem? (i := 213) (by decide +kernel)
theorem s_n_0_11 : Cond.not (Cond.eq (s_tm 0) (s_tm 11)) ∈ s_fl := List.mem_of_getElem? (i := 232) (by decide +kernel)
theorem s_n_1_2 : Cond.not (Cond.eq (s_tm 1) (s_tm 2)) ∈ s_fl := List.mem_of_getElem? (i := 139) (by decide +kernel)
theorem s_n_1_3 : Cond.not (Cond.eq (s_tm 1) (s_tm 3)) ∈ s_fl := List.mem_of_getElem? (i := 152) (by decide +kernel)
theorem s_n_1_4 : Cond.not (Cond.eq (s_tm 1) (s_tm 4)) ∈ s_fl := List.mem_of_getElem? (i := 166) (by decide +kernel)
theorem s_n_1_5 : Cond.not (Cond.eq (s_tm 1) (s_tm 5)) ∈ s_fl := List.mem_of_getElem? (i := 179) (by decide +kernel)
theorem s_n_1_6 : Cond.not (Cond.eq (s_tm 1) (s_tm 6)) ∈ s_fl := List.mem_of_getElem? (i := 197) (by decide +kernel)
theorem s_n_1_10 : Cond.not (Cond.eq (s_tm 1) (s_tm 10)) ∈ s_fl := List.mem_of_getElem? (i := 214) (by decide +kernel)
theorem s_n_1_11 : Cond.not (Cond.eq (s_tm 1) (s_tm 11)) ∈ s_fl := List.mem_of_getElem? (i := 233) (by decide +kernel)
theorem s_n_2_3 : Cond.not (Cond.eq (s_tm 2) (s_tm 3)) ∈ s_fl := List.mem_of_getElem? (i := 153) (by decide +kernel)
theorem s_n_2_4 : Cond.not (Cond.eq (s_tm 2) (s_tm 4)) ∈ s_fl := List.mem_of_getElem? (i := 167) (by decide +kernel)
theorem s_n_2_5 : Cond.not (Cond.eq (s_tm 2) (s_tm 5)) ∈ s_fl := List.mem_of_getElem? (i := 180) (by decide +kernel)
theorem s_n_2_6 : Cond.not (Cond.eq (s_tm 2) (s_tm 6)) ∈ s_fl := List.mem_of_getElem? (i := 198) (by decide +kernel)
theorem s_n_2_10 : Cond.not (Cond.eq (s_tm 2) (s_tm 10)) ∈ s_fl := List.mem_of_getElem? (i := 215) (by decide +kernel)
theorem s_n_2_11 : Cond.not (Cond.eq (s_tm 2) (s_tm 11)) ∈ s_fl := List.mem_of_getElem? (i := 234) (by decide +kernel)
theorem s_n_3_4 : Cond.not (Cond.eq (s_tm 3) (s_tm 4)) ∈ s_fl := List.mem_of_getElem? (i := 168) (by decide +kernel)
theorem s_n_3_5 : Cond.not (Cond.eq (s_tm 3) (s_tm 5)) ∈ s_fl := List.mem_of_getElem? (i := 181) (by decide +kernel)
theorem s_n_3_6 : Cond.not (Cond.eq (s_tm 3) (s_tm 6)) ∈ s_fl := List.mem_of_getElem? (i := 199) (by decide +kernel)
theorem s_n_3_10 : Cond.not (Cond.eq (s_tm 3) (s_tm 10)) ∈ s_fl := List.mem_of_getElem? (i := 216) (by decide +kernel)
theorem s_n_3_11 : Cond.not (Cond.eq (s_tm 3) (s_tm 11)) ∈ s_fl := List.mem_of_getElem? (i := 235) (by decide +kernel)
theorem s_n_4_5 : Cond.not (Cond.eq (s_tm 4) (s_tm 5)) ∈ s_fl := List.mem_of_getElem? (i := 182) (by decide +kernel)
theorem s_n_4_6 : Cond.not (Cond.eq (s_tm 4) (s_tm 6)) ∈ s_fl := List.mem_of_getElem? (i := 200) (by decide +kernel)
theorem s_n_4_10 : Cond.not (Cond.eq (s_tm 4) (s_tm 10)) ∈ s_fl := List.mem_of_getElem? (i := 217) (by decide +kernel)
theorem s_n_4_11 : Cond.not (Cond.eq (s_tm 4) (s_tm 11)) ∈ s_fl := List.mem_of_getElem? (i := 236) (by decide +kernel)
theorem s_n_5_6 : Cond.not (Cond.eq (s_tm 5) (s_tm 6)) ∈ s_fl := List.mem_of_getElem? (i := 201) (by decide +kernel)
theorem s_n_5_10 : Cond.not (Cond.eq (s_tm 5) (s_tm 10)) ∈ s_fl := List.mem_of_getElem? (i := 218) (by decide +kernel)
theorem s_n_5_11 : Cond.not (Cond.eq (s_tm 5) (s_tm 11)) ∈ s_fl := List.mem_of_getElem? (i := 237) (by decide +kernel)
theorem s_n_6_10 : Cond.not (Cond.eq (s_tm 6) (s_tm 10)) ∈ s_fl := List.mem_of_getElem? (i := 219) (by decide +kernel)
theorem s_n_6_11 : Cond.not (Cond.eq (s_tm 6) (s_tm 11)) ∈ s_fl := List.mem_of_getElem? (i := 238) (by decide +kernel)
theorem s_n_7_0 : Cond.not (Cond.eq (s_tm 7) (s_tm 0)) ∈ s_fl := List.mem_of_getElem? (i := 109) (by decide +kernel)
theorem s_n_7_1 : Cond.not (Cond.eq (s_tm 7) (s_tm 1)) ∈ s_fl := List.mem_of_getElem? (i := 123) (by decide +kernel)
theorem s_n_7_2 : Cond.not (Cond.eq (s_tm 7) (s_tm 2)) ∈ s_fl := List.mem_of_getElem? (i := 135) (by decide +kernel)
theorem s_n_7_3 : Cond.not (Cond.eq (s_tm 7) (s_tm 3)) ∈ s_fl := List.mem_of_getElem? (i := 148) (by decide +kernel)
theorem s_n_7_4 : Cond.not (Cond.eq (s_tm 7) (s_tm 4)) ∈ s_fl := List.mem_of_getElem? (i := 162) (by decide +kernel)
theorem s_n_7_5 : Cond.not (Cond.eq (s_tm 7) (s_tm 5)) ∈ s_fl := List.mem_of_getElem? (i := 175) (by decide +kernel)
theorem s_n_7_6 : Cond.not (Cond.eq (s_tm 7) (s_tm 6)) ∈ s_fl := List.mem_of_getElem? (i := 193) (by decide +kernel)
theorem s_n_7_8 : Cond.not (Cond.eq (s_tm 7) (s_tm 8)) ∈ s_fl := List.mem_of_getElem? (i := 90) (by decide +kernel)
theorem s_n_7_9 : Cond.not (Cond.eq (s_tm 7) (s_tm 9)) ∈ s_fl := List.mem_of_getElem? (i := 98) (by decide +kernel)
theorem s_n_7_10 : Cond.not (Cond.eq (s_tm 7) (s_tm 10)) ∈ s_fl := List.mem_of_getElem? (i := 210) (by decide +kernel)
theorem s_n_7_11 : Cond.not (Cond.eq (s_tm 7) (s_tm 11)) ∈ s_fl := List.mem_of_getElem? (i := 229) (by decide +kernel)
theorem s_n_8_0 : Cond.not (Cond.eq (s_tm 8) (s_tm 0)) ∈ s_fl := List.mem_of_getElem? (i := 110) (by decide +kernel)
theorem s_n_8_1 : Cond.not (Cond.eq (s_tm 8) (s_tm 1)) ∈ s_fl := List.mem_of_getElem? (i := 124) (by decide +kernel)
theorem s_n_8_2 : Cond.not (Cond.eq (s_tm 8) (s_tm 2)) ∈ s_fl := List.mem_of_getElem? (i := 136) (by decide +kernel)
theorem s_n_8_3 : Cond.not (Cond.eq (s_tm 8) (s_tm 3)) ∈ s_fl := List.mem_of_getElem? (i := 149) (by decide +kernel)
theorem s_n_8_4 : Cond.not (Cond.eq (s_tm 8) (s_tm 4)) ∈ s_fl := List.mem_of_getElem? (i := 163) (by decide +kernel)
theorem s_n_8_5 : Cond.not (Cond.eq (s_tm 8) (s_tm 5)) ∈ s_fl := List.mem_of_getElem? (i := 176) (by decide +kernel)
theorem s_n_8_6 : Cond.not (Cond.eq (s_tm 8) (s_tm 6)) ∈ s_fl := List.mem_of_getElem? (i := 194) (by decide +kernel)
theorem s_n_8_9 : Cond.not (Cond.eq (s_tm 8) (s_tm 9)) ∈ s_fl := List.mem_of_getElem? (i := 99) (by decide +kernel)
theorem s_n_8_10 : Cond.not (Cond.eq (s_tm 8) (s_tm 10)) ∈ s_fl := List.mem_of_getElem? (i := 211) (by decide +kernel)
theorem s_n_8_11 : Cond.not (Cond.eq (s_tm 8) (s_tm 11)) ∈ s_fl := List.mem_of_getElem? (i := 230) (by decide +kernel)
theorem s_n_9_0 : Cond.not (Cond.eq (s_tm 9) (s_tm 0)) ∈ s_fl := List.mem_of_getElem? (i := 111) (by decide +kernel)
theorem s_n_9_1 : Cond.not (Cond.eq (s_tm 9) (s_tm 1)) ∈ s_fl := List.mem_of_getElem? (i := 125) (by decide +kernel)
theorem s_n_9_2 : Cond.not (Cond.eq (s_tm 9) (s_tm 2)) ∈ s_fl := List.mem_of_getElem? (i := 137) (by decide +kernel)
theorem s_n_9_3 : Cond.not (Cond.eq (s_tm 9) (s_tm 3)) ∈ s_fl := List.mem_of_getElem? (i := 150) (by decide +kernel)
theorem s_n_9_4 : Cond.not (Cond.eq (s_tm 9) (s_tm 4)) ∈ s_fl := List.mem_of_getElem? (i := 164) (by decide +kernel)
theorem s_n_9_5 : Cond.not (Cond.eq (s_tm 9) (s_tm 5)) ∈ s_fl := List.mem_of_getElem? (i := 177) (by decide +kernel)
theorem s_n_9_6 : Cond.not (Cond.eq (s_tm 9) (s_tm 6)) ∈ s_fl := List.mem_of_getElem? (i := 195) (by decide +kernel)
theorem s_n_9_10 : Cond.not (Cond.eq (s_tm 9) (s_tm 10)) ∈ s_fl := List.mem_of_getElem? (i := 212) (by decide +kernel)
theorem s_n_9_11 : Cond.not (Cond.eq (s_tm 9) (s_tm 11)) ∈ s_fl := List.mem_of_getElem? (i := 231) (by decide +kernel)
theorem s_n_10_11 : Cond.not (Cond.eq (s_tm 10) (s_tm 11)) ∈ s_fl := List.mem_of_getElem? (i := 239) (by decide +kernel)
theorem s_t6 : ∀ i, i < 12 → ∀ j, j < 12 → i ≠ j → (Cond.not (Cond.eq (s_tm i) (s_tm j)) ∈ s_fl ∨ Cond.not (Cond.eq (s_tm j) (s_tm i)) ∈ s_fl) := fun i hi j hj hne => by
  match i, hi, j, hj with
  | 0, _, 0, _ => exact absurd rfl hne
  | 0, _, 1, _ => exact Or.inl s_n_0_1
  | 0, _, 2, _ => exact Or.inl s_n_0_2
  | 0, _, 3, _ => exact Or.inl s_n_0_3
  | 0, _, 4, _ => exact Or.inl s_n_0_4
  | 0, _, 5, _ => exact Or.inl s_n_0_5
  | 0, _, 6, _ => exact Or.inl s_n_0_6
  | 0, _, 7, _ => exact Or.inr s_n_7_0
  | 0, _, 8, _ => exact Or.inr s_n_8_0
  | 0, _, 9, _ => exact Or.inr s_n_9_0
  | 0, _, 10, _ => exact Or.inl s_n_0_10
  | 0, _, 11, _ => exact Or.inl s_n_0_11
  | 1, _, 0, _ => exact Or.inr s_n_0_1
  | 1, _, 1, _ => exact absurd rfl hne
  | 1, _, 2, _ => exact Or.inl s_n_1_2
  | 1, _, 3, _ => exact Or.inl s_n_1_3
  | 1, _, 4, _ => exact Or.inl s_n_1_4
  | 1, _, 5, _ => exact Or.inl s_n_1_5
  | 1, _, 6, _ => exact Or.inl s_n_1_6
  | 1, _, 7, _ => exact Or.inr s_n_7_1
  | 1, _, 8, _ => exact Or.inr s_n_8_1
  | 1, _, 9, _ => exact Or.inr s_n_9_1
  | 1, _, 10, _ => exact Or.inl s_n_1_10
  | 1, _, 11, _ => exact Or.inl s_n_1_11
  | 2, _, 0, _ => exact Or.inr s_n_0_2
  | 2, _, 1, _ => exact Or.inr s_n_1_2
  | 2, _, 2, _ => exact absurd rfl hne
  | 2, _, 3, _ => exact Or.inl s_n_2_3
  | 2, _, 4, _ => exact Or.inl s_n_2_4
  | 2, _, 5, _ => exact Or.inl s_n_2_5
  | 2, _, 6, _ => exact Or.inl s_n_2_6
  | 2, _, 7, _ => exact Or.inr s_n_7_2
  | 2, _, 8, _ => exact Or.inr s_n_8_2
  | 2, _, 9, _ => exact Or.inr s_n_9_2
  | 2, _, 10, _ => exact Or.inl s_n_2_10
  | 2, _, 11, _ => exact Or.inl s_n_2_11
  | 3, _, 0, _ => exact Or.inr s_n_0_3
  | 3, _, 1, _ => exact Or.inr s_n_1_3
  | 3, _, 2, _ => exact Or.inr s_n_2_3
  | 3, _, 3, _ => exact absurd rfl hne
  | 3, _, 4, _ => exact Or.inl s_n_3_4
  | 3, _, 5, _ => exact Or.inl s_n_3_5
  | 3, _, 6, _ => exact Or.inl s_n_3_6
  | 3, _, 7, _ => exact Or.inr s_n_7_3
  | 3, _, 8, _ => exact Or.inr s_n_8_3
  | 3, _, 9, _ => exact Or.inr s_n_9_3
  | 3, _, 10, _ => exact Or.inl s_n_3_10
  | 3, _, 11, _ => exact Or.inl s_n_3_11
  | 4, _, 0, _ => exact Or.inr s_n_0_4
  | 4, _, 1, _ => exact Or.inr s_n_1_4
  | 4, _, 2, _ => exact Or.inr s_n_2_4
  | 4, _, 3, _ => exact Or.inr s_n_3_4
  | 4, _, 4, _ => exact absurd rfl hne
  | 4, _, 5, _ => exact Or.inl s_n_4_5
  | 4, _, 6, _ => exact Or.inl s_n_4_6
  | 4, _, 7, _ => exact Or.inr s_n_7_4
  | 4, _, 8, _ => exact Or.inr s_n_8_4
  | 4, _, 9, _ => exact Or.inr s_n_9_4
  | 4, _, 10, _ => exact Or.inl s_n_4_10
  | 4, _, 11, _ => exact Or.inl s_n_4_11
  | 5, _, 0, _ => exact Or.inr s_n_0_5
  | 5, _, 1, _ => exact Or.inr s_n_1_5
  | 5, _, 2, _ => exact Or.inr s_n_2_5
  | 5, _, 3, _ => exact Or.inr s_n_3_5
  | 5, _, 4, _ => exact Or.inr s_n_4_5
  | 5, _, 5, _ => exact absurd rfl hne
  | 5, _, 6, _ => exact Or.inl s_n_5_6
  | 5, _, 7, _ => exact Or.inr s_n_7_5
  | 5, _, 8, _ => exact Or.inr s_n_8_5
  | 5, _, 9, _ => exact Or.inr s_n_9_5
  | 5, _, 10, _ => exact Or.inl s_n_5_10
  | 5, _, 11, _ => exact Or.inl s_n_5_11
  | 6, _, 0, _ => exact Or.inr s_n_0_6
  | 6, _, 1, _ => exact Or.inr s_n_1_6
  | 6, _, 2, _ => exact Or.inr s_n_2_6
  | 6, _, 3, _ => exact Or.inr s_n_3_6
  | 6, _, 4, _ => exact Or.inr s_n_4_6
  | 6, _, 5, _ => exact Or.inr s_n_5_6
  | 6, _, 6, _ => exact absurd rfl hne
  | 6, _, 7, _ => exact Or.inr s_n_7_6
  | 6, _, 8, _ => exact Or.inr s_n_8_6
  | 6, _, 9, _ => exact Or.inr s_n_9_6
  | 6, _, 10, _ => exact Or.inl s_n_6_10
  | 6, _, 11, _ => exact Or.inl s_n_6_11
  | 7, _, 0, _ => exact Or.inl s_n_7_0
  | 7, _, 1, _ => exact Or.inl s_n_7_1
  | 7, _, 2, _ => exact Or.inl s_n_7_2
  | 7, _, 3, _ => exact Or.inl s_n_7_3
  | 7, _, 4, _ => exact Or.inl s_n_7_4
  | 7, _, 5, _ => exact Or.inl s_n_7_5
  | 7, _, 6, _ => exact Or.inl s_n_7_6
  | 7, _, 7, _ => exact absurd rfl hne
  | 7, _, 8, _ => exact Or.inl s_n_7_8
  | 7, _, 9, _ => exact Or.inl s_n_7_9
  | 7, _, 10, _ => exact Or.inl s_n_7_10
  | 7, _, 11, _ => exact Or.inl s_n_7_11
  | 8, _, 0, _ => exact Or.inl s_n_8_0
  | 8, _, 1, _ => exact Or.inl s_n_8_1
  | 8, _, 2, _ => exact Or.inl s_n_8_2
  | 8, _, 3, _ => exact Or.inl s_n_8_3
  | 8, _, 4, _ => exact Or.inl s_n_8_4
  | 8, _, 5, _ => exact Or.inl s_n_8_5
  | 8, _, 6, _ => exact Or.inl s_n_8_6
  | 8, _, 7, _ => exact Or.inr s_n_7_8
  | 8, _, 8, _ => exact absurd rfl hne
  | 8, _, 9, _ => exact Or.inl s_n_8_9
  | 8, _, 10, _ => exact Or.inl s_n_8_10
  | 8, _, 11, _ => exact Or.inl s_n_8_11
  | 9, _, 0, _ => exact Or.inl s_n_9_0
  | 9, _, 1, _ => exact Or.inl s_n_9_1
  | 9, _, 2, _ => exact Or.inl s_n_9_2
  | 9, _, 3, _ => exact Or.inl s_n_9_3
  | 9, _, 4, _ => exact Or.inl s_n_9_4
  | 9, _, 5, _ => exact Or.inl s_n_9_5
  | 9, _, 6, _ => exact Or.inl s_n_9_6
  | 9, _, 7, _ => exact Or.inr s_n_7_9
  | 9, _, 8, _ => exact Or.inr s_n_8_9
  | 9, _, 9, _ => exact absurd rfl hne
  | 9, _, 10, _ => exact Or.inl s_n_9_10
  | 9, _, 11, _ => exact Or.inl s_n_9_11
  | 10, _, 0, _ => exact Or.inr s_n_0_10
  | 10, _, 1, _ => exact Or.inr s_n_1_10
  | 10, _, 2, _ => exact Or.inr s_n_2_10
  | 10, _, 3, _ => exact Or.inr s_n_3_10
  | 10, _, 4, _ => exact Or.inr s_n_4_10
  | 10, _, 5, _ => exact Or.inr s_n_5_10
  | 10, _, 6, _ => exact Or.inr s_n_6_10
  | 10, _, 7, _ => exact Or.inr s_n_7_10
  | 10, _, 8, _ => exact Or.inr s_n_8_10
  | 10, _, 9, _ => exact Or.inr s_n_9_10
  | 10, _, 10, _ => exact absurd rfl hne
  | 10, _, 11, _ => exact Or.inl s_n_10_11
  | 11, _, 0, _ => exact Or.inr s_n_0_11
  | 11, _, 1, _ => exact Or.inr s_n_1_11
  | 11, _, 2, _ => exact Or.inr s_n_2_11
  | 11, _, 3, _ => exact Or.inr s_n_3_11
  | 11, _, 4, _ => exact Or.inr s_n_4_11
  | 11, _, 5, _ => exact Or.inr s_n_5_11
  | 11, _, 6, _ => exact Or.inr s_n_6_11
  | 11, _, 7, _ => exact Or.inr s_n_7_11
  | 11, _, 8, _ => exact Or.inr s_n_8_11
  | 11, _, 9, _ => exact Or.inr s_n_9_11
  | 11, _, 10, _ => exact Or.inr s_n_10_11
  | 11, _, 11, _ => exact absurd rfl hne
  | i + 12, hi, _, _ => exact absurd hi (by omega)
  | _, _, j + 12, hj => exact absurd hj (by omega)
theorem s_cs : Cond.eq (.static "java/lang/String" "COMPACT_STRINGS" "Z") (.int 1) ∈ s_fl := by decide +kernel
theorem s_si : Cond.isRef (.static "jdk/internal/util/Preconditions" "SIOOBE_FORMATTER" "Ljava/util/function/BiFunction;") ∈ s_fl := by decide +kernel
theorem s_strs : (j_txt.map fun q => Cond.stringRef q.1 q.2.1 q.2.2.2) = [1589, 1590, 1591, 1592, 1593, 1594, 1595, 1530, 1583, 1584, 1596, 1597].filterMap (fun i => lw_tbl[i]?) := by decide +kernel
theorem s_nest : (j_nest.map fun q => Cond.methodLinkNest q.1 q.2.1 q.2.2.1 q.2.2.2) = [143, 288, 344, 462, 950, 962].filterMap (fun i => lw_tbl[i]?) := by decide +kernel
theorem s_sub {ws : List Cond} {ps : List Nat} (h : ws = ps.filterMap (fun i => lw_tbl[i]?)) : ∀ w ∈ ws, w ∈ lw_tbl := fun w hw => by
  rw [h] at hw
  obtain ⟨i, -, hi⟩ := List.mem_filterMap.mp hw
  exact List.mem_of_getElem? hi
def s_io (b t0 t1 t2 sq : Nat) (adK adV : Nat → Nat) : Nat → Nat := fun x => if x = 310 then b else if x = 300 then t0 else if x = 301 then t1 else if x = 302 then t2 else if x = 360 then sq else if x < 341 then adK (x - 321) else adV (x - 341)
def s_Lv (L : Nat) (isr : Prop) : j_L := fun k n a => (k = 3 ∧ n = L ∧ a = 310) ∨ (k = 3 ∧ n = 13 ∧ (a = 300 ∨ a = 301 ∨ a = 302)) ∨ (k = 4 ∧ n = 0 ∧ 321 ≤ a ∧ a < 333) ∨ (k = 5 ∧ 341 ≤ a ∧ a < 353 ∧ n = j_len.getD (a - 341) 0) ∨ (k = 6 ∧ n = 0 ∧ a = 360 ∧ isr)
set_option maxHeartbeats 4000000 in
set_option maxRecDepth 100000 in
theorem s_start {s : State} {args : Array Value} (hts : ∀ w ∈ lw_tbl, w.before args s = true) (hgv : (Jvm.Cond.and given_1 narrow_1).before args s = true) {b L : Nat} {xs : Nat → Int32} (hX : va_X b L xs s s.heap) (hbl : b < s.heap.size) :
    ∃ (D : va_G) (aI aB : ClassId) (io : Nat → Nat) (Lv : j_L), j_S D aI aB s.heap io Lv (k0 xs) s ∧ j_H D aI aB s.heap io Lv (k0 xs) (k0 xs) s.heap ∧ Lv 3 L 310 ∧ io 310 = b ∧ ∀ k n a, Lv k n a → 300 ≤ a ∧ 3 ≤ k ∧ k < 10 := by
  have hs : ∀ c ∈ s_fl, c.before args s = true := flat_of_before _ hgv
  have hA : ∀ a : Nat, a < s.heap.size → ¬ (fun q : Nat => s.heap.size ≤ q) a := fun a h h' => Nat.not_le.mpr h h'
  have hA0 : ∀ a : Nat, a < s.heap.size → ¬ (fun _ : Nat => False) a := fun a _ h => h
  obtain ⟨t0, e0, T0⟩ := va_Tof (args := args) (s := s) (tm := .static RX0 "LOWEST" "[I") (ty := .int) (N := 13) (f := fun j => .int (s_low.getD j 0)) (A := fun _ => False) (by decide) (hs _ s_low_a) (va_eqt (hs _ s_low_l)) (fun j hj => va_eqt (hs _ (s_low_e j hj))) hA0
  have Z0 : va_Z RX0 "LOWEST" "[I" (.ref t0) (fun q => s.heap.size ≤ q) s s.heap := va_Zof (hts (Cond.laysStatic RX0 "LOWEST" "[I") (List.mem_of_getElem? (i := 777) (by decide +kernel))) (hts (Cond.initialized RX0) (List.mem_of_getElem? (i := 121) (by decide +kernel))) e0 hA
  obtain ⟨t1, e1, T1⟩ := va_Tof (args := args) (s := s) (tm := .static RX0 "HIGHEST" "[I") (ty := .int) (N := 13) (f := fun j => .int (s_high.getD j 0)) (A := fun _ => False) (by decide) (hs _ s_high_a) (va_eqt (hs _ s_high_l)) (fun j hj => va_eqt (hs _ (s_high_e j hj))) hA0
  have Z1 : va_Z RX0 "HIGHEST" "[I" (.ref t1) (fun q => s.heap.size ≤ q) s s.heap := va_Zof (hts (Cond.laysStatic RX0 "HIGHEST" "[I") (List.mem_of_getElem? (i := 779) (by decide +kernel))) (hts (Cond.initialized RX0) (List.mem_of_getElem? (i := 121) (by decide +kernel))) e1 hA
  obtain ⟨t2, e2, T2⟩ := va_Tof (args := args) (s := s) (tm := .static RX0 "SECOND" "[I") (ty := .int) (N := 13) (f := fun j => .int (s_sec.getD j 0)) (A := fun _ => False) (by decide) (hs _ s_sec_a) (va_eqt (hs _ s_sec_l)) (fun j hj => va_eqt (hs _ (s_sec_e j hj))) hA0
  have Z2 : va_Z RX0 "SECOND" "[I" (.ref t2) (fun q => s.heap.size ≤ q) s s.heap := va_Zof (hts (Cond.laysStatic RX0 "SECOND" "[I") (List.mem_of_getElem? (i := 781) (by decide +kernel))) (hts (Cond.initialized RX0) (List.mem_of_getElem? (i := 121) (by decide +kernel))) e2 hA
  obtain ⟨tk, ek, Tk⟩ := va_Tof (args := args) (s := s) (tm := .static RX8 "KEYWORDS" "[J") (ty := .long) (N := 13) (f := fun j => .long (j_kws.getD j 0)) (A := fun _ => False) (by decide) (hs _ s_kw_a) (va_eqt (hs _ s_kw_l)) (fun j hj => va_eqtl (hs _ (s_kw_e j hj))) hA0
  have Zk : va_Z RX8 "KEYWORDS" "[J" (.ref tk) (fun q => s.heap.size ≤ q) s s.heap := va_Zof (hts (Cond.laysStatic RX8 "KEYWORDS" "[J") (List.mem_of_getElem? (i := 744) (by decide +kernel))) (hts (Cond.initialized RX8) (List.mem_of_getElem? (i := 113) (by decide +kernel))) ek hA
  have ZC : va_Z "java/lang/String" "COMPACT_STRINGS" "Z" (.int 1) (fun q => s.heap.size ≤ q) s s.heap := va_Zof (hts (Cond.laysStatic "java/lang/String" "COMPACT_STRINGS" "Z") (List.mem_of_getElem? (i := 1544) (by decide +kernel))) (hts (Cond.initialized "java/lang/String") (List.mem_of_getElem? (i := 122) (by decide +kernel))) (va_eqt (hs _ s_cs)) hA
  have ZS : va_Zq "jdk/internal/util/Preconditions" "SIOOBE_FORMATTER" "Ljava/util/function/BiFunction;" (fun q => s.heap.size ≤ q) s s.heap := va_Zqof (hts (Cond.laysStatic "jdk/internal/util/Preconditions" "SIOOBE_FORMATTER" "Ljava/util/function/BiFunction;") (List.mem_of_getElem? (i := 1560) (by decide +kernel))) (hts (Cond.initialized "jdk/internal/util/Preconditions") (List.mem_of_getElem? (i := 124) (by decide +kernel))) (hs _ s_si) hA
  obtain ⟨sq, isr, hsq⟩ : ∃ (sq : Nat) (isr : Prop), va_Z "jdk/internal/util/Preconditions" "SIOOBE_FORMATTER" "Ljava/util/function/BiFunction;" .null (fun q => s.heap.size ≤ q) s s.heap ∨ (isr ∧ va_Z "jdk/internal/util/Preconditions" "SIOOBE_FORMATTER" "Ljava/util/function/BiFunction;" (.ref sq) (fun q => s.heap.size ≤ q) s s.heap) := by
    rcases ZS with h | ⟨t, h⟩
    · exact ⟨0, False, Or.inl h⟩
    · exact ⟨t, True, Or.inr ⟨trivial, h⟩⟩
  obtain ⟨adK, adV, hSt, hEv⟩ := vk_Sof (args := args) (s := s) (N := 12) (tm := s_tm) (len := j_len) (byt := j_byt) (A := fun q => s.heap.size ≤ q) (fun i _ => j_len_lt i) (fun i hi => hs _ (s_t1 i hi)) (fun i hi => hs _ (s_t2 i hi)) (fun i hi => hs _ (s_t3 i hi)) (fun i hi => hs _ (s_t4 i hi)) (fun i hi j hj => hs _ (s_t5 i hi j hj)) (fun i j hi hj hne => (s_t6 i hi j hj hne).imp (fun h => hs _ h) (fun h => hs _ h)) hA
  obtain ⟨c0, iS0, hKn0⟩ := u_known (C := RX1) (T := TX1) (N := 15) (n := 15) hts (fun w hw => (List.mem_filter.mp (ws_in0 w hw)).1) (hts (Cond.instantiable RX1 15) (List.mem_of_getElem? (i := 216) (by decide +kernel)))
  obtain ⟨c1, iS1, hKn1⟩ := u_known (C := RX5) (T := TX5) (N := 15) (n := 15) hts (fun w hw => (List.mem_filter.mp (ws_in1 w hw)).1) (hts (Cond.instantiable RX5 15) (List.mem_of_getElem? (i := 142) (by decide +kernel)))
  obtain ⟨c2, iS2, hKn2⟩ := u_known (C := RX6) (T := TX6) (N := 3) (n := 3) hts (fun w hw => (List.mem_filter.mp (ws_in2 w hw)).1) (hts (Cond.instantiable RX6 3) (List.mem_of_getElem? (i := 136) (by decide +kernel)))
  obtain ⟨c3, iS3, hKn3⟩ := u_known (C := RX8) (T := TX8) (N := 13) (n := 13) hts (fun w hw => (List.mem_filter.mp (ws_in3 w hw)).1) (hts (Cond.instantiable RX8 13) (List.mem_of_getElem? (i := 343) (by decide +kernel)))
  obtain ⟨c4, iS4, hKn4⟩ := u_known (C := RX9) (T := TX9) (N := 8) (n := 8) hts (fun w hw => (List.mem_filter.mp (ws_in4 w hw)).1) (hts (Cond.instantiable RX9 8) (List.mem_of_getElem? (i := 287) (by decide +kernel)))
  obtain ⟨c5, iS5, hKn5⟩ := u_known (C := RX10) (T := TX10) (N := 17) (n := 17) hts (fun w hw => (List.mem_filter.mp (ws_in5 w hw)).1) (hts (Cond.instantiable RX10 17) (List.mem_of_getElem? (i := 961) (by decide +kernel)))
  obtain ⟨c6, iS6, hKn6⟩ := u_known (C := RX11) (T := TX11) (N := 5) (n := 5) hts (fun w hw => (List.mem_filter.mp (ws_in6 w hw)).1) (hts (Cond.instantiable RX11 5) (List.mem_of_getElem? (i := 128) (by decide +kernel)))
  obtain ⟨c7, iS7, hKn7⟩ := u_known (C := RX12) (T := TX12) (N := 32) (n := 32) hts (fun w hw => (List.mem_filter.mp (ws_in7 w hw)).1) (hts (Cond.instantiable RX12 32) (List.mem_of_getElem? (i := 1168) (by decide +kernel)))
  obtain ⟨aI, kI, cI, i1, i2, i3⟩ := Cond.arrayClass_spec (hts (Cond.arrayClass .int) (List.mem_of_getElem? (i := 214) (by decide +kernel)))
  obtain ⟨aB, kB, cB, b1, b2, b3⟩ := Cond.arrayClass_spec (hts (Cond.arrayClass .byte) (List.mem_of_getElem? (i := 1274) (by decide +kernel)))
  have hKc : ∀ (k : Nat) (q : vw_C), vwCl[k]? = some q → u_Kn s q.1 q.2.1 q.2.2 ([c0, c1, c2, c3, c4, c5, c6, c7].getD k c0) ([iS0, iS1, iS2, iS3, iS4, iS5, iS6, iS7].getD k iS0) := by
    intro k q hq
    match k, hq with
    | 0, hq => cases hq; exact hKn0
    | 1, hq => cases hq; exact hKn1
    | 2, hq => cases hq; exact hKn2
    | 3, hq => cases hq; exact hKn3
    | 4, hq => cases hq; exact hKn4
    | 5, hq => cases hq; exact hKn5
    | 6, hq => cases hq; exact hKn6
    | 7, hq => cases hq; exact hKn7
    | k + 8, hq => simp [vwCl] at hq
  refine ⟨(fun k => [c0, c1, c2, c3, c4, c5, c6, c7].getD k c0, fun k => [iS0, iS1, iS2, iS3, iS4, iS5, iS6, iS7].getD k iS0), aI, aB, s_io b t0 t1 t2 sq adK adV, s_Lv L isr, ⟨⟨hKc, ?_⟩, ?_, ?_⟩, ⟨Nat.le_refl _, fun _ _ => rfl, ?_, ?_, ?_, ?_⟩, Or.inl ⟨rfl, rfl, rfl⟩, rfl, ?_⟩
  · intro k q hq
    match k, hq with
    | 0, hq => cases hq; exact ⟨fun n z => ⟨fun k h => (by cases h), kI, i2, cI, i3⟩, i1⟩
    | 1, hq => cases hq; exact ⟨fun n z => ⟨fun k h => (by cases h), kB, b2, cB, b3⟩, b1⟩
    | k + 2, hq => simp at hq
  · intro n a h
    rcases h with ⟨-, rfl, rfl⟩ | ⟨-, rfl, rfl | rfl | rfl⟩ | ⟨h, -⟩ | ⟨h, -⟩ | ⟨h, -⟩
    · obtain ⟨scr, x1, x2, x3, x4, x5⟩ := hX
      exact ⟨scr, x1, x2, x3, Nat.le_of_eq x4.symm, by rw [x4], x5, fun h => h⟩
    · exact T0
    · exact T1
    · exact T2
    all_goals cases h
  · have eK : ∀ i, i < 12 → s_io b t0 t1 t2 sq adK adV (321 + i) = adK i := fun i hi => by
      unfold s_io
      rw [if_neg (by omega), if_neg (by omega), if_neg (by omega), if_neg (by omega), if_neg (by omega), if_pos (by omega), Nat.add_sub_cancel_left]
    have eV : ∀ i, i < 12 → s_io b t0 t1 t2 sq adK adV (341 + i) = adV i := fun i hi => by
      unfold s_io
      rw [if_neg (by omega), if_neg (by omega), if_neg (by omega), if_neg (by omega), if_neg (by omega), if_neg (by omega), Nat.add_sub_cancel_left]
    refine ⟨⟨Or.inr (Or.inl ⟨rfl, rfl, Or.inl rfl⟩), Z0⟩, ⟨Or.inr (Or.inl ⟨rfl, rfl, Or.inr (Or.inl rfl)⟩), Z1⟩, ⟨Or.inr (Or.inl ⟨rfl, rfl, Or.inr (Or.inr rfl)⟩), Z2⟩, ZC, ?_, ⟨?_, ?_⟩, ?_, ?_, ?_, ?_, ⟨tk, Zk, Tk⟩⟩
    · rcases hsq with h | ⟨h, h'⟩
      · exact Or.inl h
      · exact Or.inr ⟨Or.inr (Or.inr (Or.inr (Or.inr ⟨rfl, rfl, rfl, h⟩))), h'⟩
    · intro i hi
      have := hSt.1 i hi
      simp only [eK i hi, eV i hi]
      exact this
    · intro i j hi hj he
      simp only [eK i hi, eK j hj] at he
      exact hSt.2 i j hi hj he
    · intro i hi
      exact ⟨Or.inr (Or.inr (Or.inl ⟨rfl, rfl, by omega, by omega⟩)), Or.inr (Or.inr (Or.inr (Or.inl ⟨rfl, by omega, by omega, by rw [Nat.add_sub_cancel_left]⟩)))⟩
    · intro q hq
      have hlt : q.2.2.1 < 12 ∧ s_tm q.2.2.1 = .string q.1 q.2.1 := by
        revert q
        decide +kernel
      rw [eK _ hlt.1]
      refine vk_R.of (A := args) (hts _ (s_sub s_strs _ (List.mem_map.mpr ⟨q, hq, rfl⟩))) ?_
      rw [← hlt.2]
      exact hEv _ hlt.1
    · intro q hq
      exact va_Nw.of rfl (hts _ (s_sub s_nest _ (List.mem_map.mpr ⟨q, hq, rfl⟩)))
    · intro n u h
      rcases h with ⟨h, -⟩ | ⟨h, -⟩ | ⟨-, h, h1, h2⟩ | ⟨h, -⟩ | ⟨h, -⟩
      · cases h
      · cases h
      · exact ⟨h, u - 321, by omega, by omega⟩
      · cases h
      · cases h
  · intro k n a k' n' a' h h' hk
    rcases h with ⟨rfl, -⟩ | ⟨rfl, -⟩ | ⟨rfl, -⟩ | ⟨rfl, -⟩ | ⟨rfl, -⟩ <;> omega
  · intro k n h
    rcases h with ⟨-, -, h⟩ | ⟨-, -, h⟩ | ⟨-, -, h, -⟩ | ⟨-, h, -⟩ | ⟨-, -, h, -⟩ <;> omega
  · intro k n a h
    have hlt : 3 ≤ k → k < 6 → s_io b t0 t1 t2 sq adK adV a < s.heap.size := fun _ _ => by
      rcases h with ⟨rfl, -, rfl⟩ | ⟨rfl, -, rfl | rfl | rfl⟩ | ⟨rfl, -, h1, h2⟩ | ⟨rfl, h1, h2, -⟩ | ⟨rfl, -⟩
      · exact hbl
      · obtain ⟨c, hc, -⟩ := T0; exact (Array.getElem?_eq_some_iff.mp hc).1
      · obtain ⟨c, hc, -⟩ := T1; exact (Array.getElem?_eq_some_iff.mp hc).1
      · obtain ⟨c, hc, -⟩ := T2; exact (Array.getElem?_eq_some_iff.mp hc).1
      · obtain ⟨c, hc, -⟩ := (hSt.1 (a - 321) (by omega)).1
        have e : s_io b t0 t1 t2 sq adK adV a = adK (a - 321) := by
          unfold s_io
          rw [if_neg (by omega), if_neg (by omega), if_neg (by omega), if_neg (by omega), if_neg (by omega), if_pos (by omega)]
        rw [e]; exact (Array.getElem?_eq_some_iff.mp hc).1
      · obtain ⟨c, hc, -⟩ := (hSt.1 (a - 341) (by omega)).2.2.2
        have e : s_io b t0 t1 t2 sq adK adV a = adV (a - 341) := by
          unfold s_io
          rw [if_neg (by omega), if_neg (by omega), if_neg (by omega), if_neg (by omega), if_neg (by omega), if_neg (by omega)]
        rw [e]; exact (Array.getElem?_eq_some_iff.mp hc).1
      · omega
    have hkr : 3 ≤ k ∧ k < 10 := by rcases h with ⟨rfl, -⟩ | ⟨rfl, -⟩ | ⟨rfl, -⟩ | ⟨rfl, -⟩ | ⟨rfl, -⟩ <;> omega
    exact ⟨by omega, by omega, ⟨fun _ => rfl, hlt⟩, fun ci => by omega⟩
  · intro k n a h
    rcases h with ⟨rfl, -, h⟩ | ⟨rfl, -, h⟩ | ⟨rfl, -, h, -⟩ | ⟨rfl, h, -⟩ | ⟨rfl, -, h, -⟩ <;> exact ⟨by omega, by omega, by omega, by omega⟩
  · intro k n a h
    rcases h with ⟨rfl, -, h⟩ | ⟨rfl, -, h⟩ | ⟨rfl, -, h, -⟩ | ⟨rfl, h, -⟩ | ⟨rfl, -, h, -⟩ <;> omega
