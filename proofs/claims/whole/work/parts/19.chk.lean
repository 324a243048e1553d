/-! the tables against the claim's words -/
theorem am_m0 {w : Cond} (j : Nat) (h : (k2_sels lw_privs)[j]? = some w) (hg : (goodWord w || am_isN w) = true) : w ∈ am_G := List.mem_filter.mpr ⟨List.mem_append_left _ (List.mem_of_getElem? h), hg⟩
theorem am_m1 {w : Cond} (j : Nat) (h : tables_1_1[j]? = some w) (hg : (goodWord w || am_isN w) = true) : w ∈ am_G := List.mem_filter.mpr ⟨List.mem_append_right _ (List.mem_append_left _ (List.mem_of_getElem? h)), hg⟩
theorem am_m2 {w : Cond} (j : Nat) (h : tables_1_2[j]? = some w) (hg : (goodWord w || am_isN w) = true) : w ∈ am_G := List.mem_filter.mpr ⟨List.mem_append_right _ (List.mem_append_right _ (List.mem_append_left _ (List.mem_of_getElem? h))), hg⟩
theorem am_m3 {w : Cond} (j : Nat) (h : tables_1_3[j]? = some w) (hg : (goodWord w || am_isN w) = true) : w ∈ am_G := List.mem_filter.mpr ⟨List.mem_append_right _ (List.mem_append_right _ (List.mem_append_right _ (List.mem_append_left _ (List.mem_of_getElem? h)))), hg⟩
theorem am_m4 {w : Cond} (j : Nat) (h : tables_1_4[j]? = some w) (hg : (goodWord w || am_isN w) = true) : w ∈ am_G := List.mem_filter.mpr ⟨List.mem_append_right _ (List.mem_append_right _ (List.mem_append_right _ (List.mem_append_right _ (List.mem_append_left _ (List.mem_of_getElem? h))))), hg⟩
theorem am_m5 {w : Cond} (j : Nat) (h : tables_1_5[j]? = some w) (hg : (goodWord w || am_isN w) = true) : w ∈ am_G := List.mem_filter.mpr ⟨List.mem_append_right _ (List.mem_append_right _ (List.mem_append_right _ (List.mem_append_right _ (List.mem_append_right _ (List.mem_append_left _ (List.mem_of_getElem? h)))))), hg⟩
theorem am_m6 {w : Cond} (j : Nat) (h : tables_1_6[j]? = some w) (hg : (goodWord w || am_isN w) = true) : w ∈ am_G := List.mem_filter.mpr ⟨List.mem_append_right _ (List.mem_append_right _ (List.mem_append_right _ (List.mem_append_right _ (List.mem_append_right _ (List.mem_append_right _ (List.mem_append_left _ (List.mem_of_getElem? h))))))), hg⟩
theorem am_m7 {w : Cond} (j : Nat) (h : tables_1_7[j]? = some w) (hg : (goodWord w || am_isN w) = true) : w ∈ am_G := List.mem_filter.mpr ⟨List.mem_append_right _ (List.mem_append_right _ (List.mem_append_right _ (List.mem_append_right _ (List.mem_append_right _ (List.mem_append_right _ (List.mem_append_right _ (List.mem_append_left _ (List.mem_of_getElem? h)))))))), hg⟩
theorem am_m8 {w : Cond} (j : Nat) (h : tables_1_8[j]? = some w) (hg : (goodWord w || am_isN w) = true) : w ∈ am_G := List.mem_filter.mpr ⟨List.mem_append_right _ (List.mem_append_right _ (List.mem_append_right _ (List.mem_append_right _ (List.mem_append_right _ (List.mem_append_right _ (List.mem_append_right _ (List.mem_append_right _ (List.mem_of_getElem? h)))))))), hg⟩
def am_sks : List Nat := [2, 1, 0, 0, 0, 2, 0, 0, 0, 0, 0, 0, 0, 0, 0, 0, 0, 0, 0, 0, 0, 2, 0, 1, 0, 0, 0, 0, 0, 2, 0, 0, 1, 1, 2, 1, 0, 0, 2, 0,
  1, 1, 1, 0, 0, 0, 0, 2, 0, 2, 0, 0, 0, 0, 0, 0, 0, 0, 0, 0, 0, 0, 0, 0, 1, 1, 1, 0, 0, 0, 0, 1, 0, 0, 0, 0, 0, 0, 1, 1,
  0, 1, 0, 0, 1, 1, 0, 1, 0, 0, 0, 0, 0, 0, 1, 1, 0, 0, 0, 1, 0, 0, 1, 1, 1, 2, 0, 0, 0, 0, 0, 0, 0, 0, 0, 0, 0, 0, 0, 0,
  0, 0, 0, 0, 0, 0, 0, 0, 0, 0, 0, 0, 2, 0, 0, 0, 0, 0, 0, 0, 0, 0, 2, 0, 0, 0, 0, 0, 0, 0, 0, 1, 0, 0, 0, 1, 0, 0, 0, 0,
  0, 1, 0, 0, 0, 0, 0, 0, 0, 0, 1, 1, 0, 0, 0, 0, 0, 0, 0, 0, 0, 2, 0, 0, 0, 0, 0, 0, 0, 0, 0, 0, 0, 0, 0, 0, 0, 0, 0, 0,
  0, 0, 0, 0, 0, 0, 1, 0, 0, 0, 0, 0, 0, 0, 0, 0, 0, 0, 0, 0, 0, 0, 0, 0, 0, 0, 0, 0, 0, 0, 0, 0, 0, 0, 0, 0, 0, 1, 1, 0,
  0, 0, 0, 0, 0, 0, 0, 0, 0, 0, 0, 0, 0, 0, 0, 0, 0, 1, 0, 0, 0, 0, 0, 0, 0, 0, 0, 0, 0, 0, 0, 0, 0, 0, 0, 0, 0, 0, 0, 0,
  0, 0, 0, 0, 0, 0, 0, 0, 0, 0, 0, 0, 0, 0, 0, 0, 0, 0, 0, 0, 0, 0, 0, 0, 0, 0, 0]
/-- 0 of an object, 1 static, 2 a constructor -/
def am_sk (z : Nat) : Nat := am_sks.getD z 9
def am_nns : List Nat := [2, 2, 2, 1, 1, 0, 1, 1, 1, 1, 1, 0, 1, 1, 1, 1, 2, 1, 1, 1, 1, 0, 1, 2, 1, 1, 2, 1, 1, 2, 4, 2, 2, 3, 2, 2, 1, 2, 0, 3,
  1, 1, 3, 0, 1, 0, 1, 3, 1, 0, 0, 1, 1, 1, 1, 1, 2, 1, 2, 1, 1, 1, 1, 1, 3, 2, 1, 1, 0, 0, 1, 1, 1, 1, 1, 2, 1, 0, 1, 2,
  0, 1, 1, 1, 1, 1, 1, 3, 0, 0, 2, 0, 1, 2, 2, 1, 1, 2, 1, 1, 0, 0, 1, 4, 3, 4, 3, 2, 1, 2, 1, 1, 1, 1, 2, 2, 2, 2, 2, 3,
  3, 2, 1, 3, 1, 0, 1, 3, 1, 1, 1, 1, 0, 1, 1, 1, 1, 1, 5, 1, 2, 1, 0, 1, 1, 1, 1, 1, 1, 5, 1, 1, 1, 0, 0, 3, 1, 3, 1, 1,
  2, 3, 1, 2, 2, 1, 1, 0, 0, 0, 2, 4, 1, 2, 5, 1, 2, 1, 1, 2, 2, 0, 2, 1, 3, 3, 2, 0, 2, 1, 0, 0, 2, 1, 0, 1, 1, 3, 2, 2,
  2, 1, 3, 2, 1, 2, 2, 4, 3, 2, 3, 0, 1, 2, 3, 2, 2, 1, 1, 0, 2, 2, 2, 2, 3, 2, 1, 3, 2, 2, 2, 1, 1, 1, 1, 2, 3, 2, 4, 0,
  4, 0, 3, 2, 3, 3, 0, 0, 0, 0, 3, 1, 1, 3, 3, 3, 3, 3, 0, 1, 1, 1, 5, 4, 0, 1, 3, 2, 3, 4, 3, 0, 1, 2, 2, 2, 2, 1, 2, 1,
  1, 0, 1, 3, 1, 5, 1, 1, 3, 1, 2, 1, 2, 2, 2, 0, 0, 2, 2, 2, 0, 1, 0, 2, 1, 1, 1]
def am_nn (z : Nat) : Nat := am_nns.getD z 0
def am_cns : List String := ["UnlearnedHand$Deeds", "UnlearnedHand$Foresight", "UnlearnedHand$Guild", "UnlearnedHand$Hands", "UnlearnedHand$Laws", "UnlearnedHand$Orders", "UnlearnedHand$Reader", "UnlearnedHand$Reckoning", "UnlearnedHand$Script", "UnlearnedHand$Steps", "UnlearnedHand", "UnlearnedHandModel", "UnlearnedHandLaw", "java/lang/String", "java/lang/Integer", "java/lang/StringLatin1", "jdk/internal/util/Preconditions"]
def am_cn (c : Nat) : String := am_cns.getD c ""
def am_cxs : List Nat := [0, 0, 1, 1, 1, 2, 2, 2, 2, 2, 2, 2, 2, 2, 2, 2, 2, 2, 2, 2, 2, 3, 3, 3, 3, 3, 3, 3, 3, 4, 4, 4, 4, 4, 5, 5, 5, 5, 6, 6,
  6, 6, 6, 6, 6, 6, 6, 7, 7, 8, 8, 8, 8, 8, 8, 8, 8, 8, 8, 10, 10, 10, 10, 10, 11, 11, 11, 11, 11, 11, 11, 11, 11, 11, 11, 11, 11, 11, 11, 11,
  11, 11, 11, 11, 11, 11, 11, 11, 11, 11, 11, 11, 11, 11, 11, 11, 11, 11, 11, 14, 13, 13, 15, 15, 16, 1, 1, 2, 2, 2, 2, 2, 2, 2, 3, 3, 3, 3, 3, 3,
  3, 3, 3, 4, 5, 5, 6, 6, 6, 7, 7, 7, 9, 9, 9, 9, 10, 10, 10, 10, 10, 10, 11, 11, 11, 11, 11, 11, 11, 11, 11, 11, 11, 11, 11, 11, 11, 11, 11, 11,
  11, 11, 11, 11, 11, 11, 11, 11, 11, 13, 13, 15, 3, 3, 4, 5, 5, 6, 6, 7, 7, 10, 10, 10, 10, 10, 10, 10, 10, 10, 10, 10, 11, 11, 11, 11, 11, 11, 11, 11,
  11, 11, 11, 11, 11, 13, 15, 0, 0, 4, 5, 6, 10, 10, 10, 10, 10, 11, 11, 11, 11, 11, 11, 11, 11, 11, 11, 11, 11, 11, 11, 11, 11, 13, 13, 0, 1, 6, 6, 6,
  7, 7, 10, 10, 10, 10, 11, 11, 11, 11, 11, 11, 11, 11, 11, 11, 0, 6, 6, 7, 7, 10, 10, 10, 11, 11, 11, 11, 11, 11, 11, 11, 0, 1, 1, 1, 6, 10, 10, 10,
  10, 11, 11, 11, 11, 11, 11, 11, 6, 10, 10, 10, 10, 10, 10, 11, 11, 11, 11, 11, 10, 11, 11, 11, 11, 11, 12]
def am_cx (z : Nat) : Nat := am_cxs.getD z 0
def am_qP (c : Nat) : Prop := plainName (am_cn c) = true ∧ am_cn c ≠ "java/lang/invoke/MethodHandle" ∧ am_cn c ≠ "java/lang/invoke/VarHandle" ∧ Cond.initialized (am_cn c) ∈ am_G
set_option maxRecDepth 100000 in
theorem am_q0 : am_qP 0 := ⟨by decide +kernel, by decide +kernel, by decide +kernel, am_m1 6 rfl rfl⟩
set_option maxRecDepth 100000 in
theorem am_q1 : am_qP 1 := ⟨by decide +kernel, by decide +kernel, by decide +kernel, am_m1 9 rfl rfl⟩
set_option maxRecDepth 100000 in
theorem am_q2 : am_qP 2 := ⟨by decide +kernel, by decide +kernel, by decide +kernel, am_m1 2 rfl rfl⟩
set_option maxRecDepth 100000 in
theorem am_q3 : am_qP 3 := ⟨by decide +kernel, by decide +kernel, by decide +kernel, am_m1 3 rfl rfl⟩
set_option maxRecDepth 100000 in
theorem am_q4 : am_qP 4 := ⟨by decide +kernel, by decide +kernel, by decide +kernel, am_m1 5 rfl rfl⟩
set_option maxRecDepth 100000 in
theorem am_q5 : am_qP 5 := ⟨by decide +kernel, by decide +kernel, by decide +kernel, am_m1 11 rfl rfl⟩
set_option maxRecDepth 100000 in
theorem am_q6 : am_qP 6 := ⟨by decide +kernel, by decide +kernel, by decide +kernel, am_m1 8 rfl rfl⟩
set_option maxRecDepth 100000 in
theorem am_q7 : am_qP 7 := ⟨by decide +kernel, by decide +kernel, by decide +kernel, am_m1 10 rfl rfl⟩
set_option maxRecDepth 100000 in
theorem am_q8 : am_qP 8 := ⟨by decide +kernel, by decide +kernel, by decide +kernel, am_m1 4 rfl rfl⟩
set_option maxRecDepth 100000 in
theorem am_q9 : am_qP 9 := ⟨by decide +kernel, by decide +kernel, by decide +kernel, am_m1 7 rfl rfl⟩
set_option maxRecDepth 100000 in
theorem am_q10 : am_qP 10 := ⟨by decide +kernel, by decide +kernel, by decide +kernel, am_m1 1 rfl rfl⟩
set_option maxRecDepth 100000 in
theorem am_q11 : am_qP 11 := ⟨by decide +kernel, by decide +kernel, by decide +kernel, am_m1 12 rfl rfl⟩
set_option maxRecDepth 100000 in
theorem am_q12 : am_qP 12 := ⟨by decide +kernel, by decide +kernel, by decide +kernel, am_m1 0 rfl rfl⟩
set_option maxRecDepth 100000 in
theorem am_q13 : am_qP 13 := ⟨by decide +kernel, by decide +kernel, by decide +kernel, am_m1 16 rfl rfl⟩
set_option maxRecDepth 100000 in
theorem am_q14 : am_qP 14 := ⟨by decide +kernel, by decide +kernel, by decide +kernel, am_m1 15 rfl rfl⟩
set_option maxRecDepth 100000 in
theorem am_q15 : am_qP 15 := ⟨by decide +kernel, by decide +kernel, by decide +kernel, am_m1 17 rfl rfl⟩
set_option maxRecDepth 100000 in
theorem am_q16 : am_qP 16 := ⟨by decide +kernel, by decide +kernel, by decide +kernel, am_m1 18 rfl rfl⟩
theorem am_qs (c : Nat) (h : c < 17) : am_qP c := by
  match c, h with
  | 0, _ => exact am_q0
  | 1, _ => exact am_q1
  | 2, _ => exact am_q2
  | 3, _ => exact am_q3
  | 4, _ => exact am_q4
  | 5, _ => exact am_q5
  | 6, _ => exact am_q6
  | 7, _ => exact am_q7
  | 8, _ => exact am_q8
  | 9, _ => exact am_q9
  | 10, _ => exact am_q10
  | 11, _ => exact am_q11
  | 12, _ => exact am_q12
  | 13, _ => exact am_q13
  | 14, _ => exact am_q14
  | 15, _ => exact am_q15
  | 16, _ => exact am_q16
  | n + 17, h => omega
