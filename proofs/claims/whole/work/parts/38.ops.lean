/-! THE LAWS: the developers' side. Numbers first -/
theorem ax_cl {x y : Int} : (am_cmp x y < 0) = (x < y) := by unfold am_cmp; apply propext; (repeat' split) <;> omega
theorem ax_cle {x y : Int} : (am_cmp x y ≤ 0) = (x ≤ y) := by unfold am_cmp; apply propext; (repeat' split) <;> omega
theorem ax_ce {x y : Int} : (am_cmp x y = 0) = (x = y) := by unfold am_cmp; apply propext; (repeat' split) <;> omega
theorem ax_w64 {x : Int} (h1 : -9223372036854775808 ≤ x) (h2 : x < 9223372036854775808) : am_w64 x = x := am_w64_id h1 h2
theorem ax_w64s {x : Int} (h1 : -2000000000000 ≤ x) (h2 : x ≤ 2000000000000) : am_w64 x = x := ax_w64 (Int.le_trans (show (-9223372036854775808 : Int) ≤ -2000000000000 by decide) h1) (Int.lt_of_le_of_lt h2 (show (2000000000000 : Int) < 9223372036854775808 by decide))
theorem ax_div {x y : Int} (h1 : -1000000 ≤ x) (h2 : x ≤ 1000000) (h3 : -1000000 ≤ y) (h4 : y ≤ 1000000) : am_div x y = Int.tdiv x y := by
  have ex : (Int32.ofInt x).toInt = x := ax_w32 (by omega) (by omega)
  have ey : (Int32.ofInt y).toInt = y := ax_w32 (by omega) (by omega)
  have h := lx_tdr (a := x) (b := y) ⟨h1, h2⟩
  unfold am_div
  rw [Int32.toInt_div, ex, ey]
  exact Int.bmod_eq_of_le (by omega) (by omega)
theorem ax_ldiv {x y : Int} (h1 : -1000000 ≤ x) (h2 : x ≤ 1000000) (h3 : -1000000 ≤ y) (h4 : y ≤ 1000000) : am_ldiv x y = Int.tdiv x y := by
  have ex : (Int64.ofInt x).toInt = x := ax_w64s (by omega) (by omega)
  have ey : (Int64.ofInt y).toInt = y := ax_w64s (by omega) (by omega)
  have h := lx_tdr (a := x) (b := y) ⟨h1, h2⟩
  unfold am_ldiv
  rw [Int64.toInt_div, ex, ey]
  exact Int.bmod_eq_of_le (by omega) (by omega)
section
variable {M : am_M} {d : Nat}
theorem c_32s {v s r b : Int} (r0 : 0 ≤ r) (b0 : 0 < b) (rb : r + b ≤ 1023) : am_Ex d 32 27 [am_N, (0, v), (0, s), (0, r), (0, b)] [] M = am_Ex d 32 27 [am_N, (0, v), (0, s), (0, lx_r1 s r b), (0, am_shr b 1)] [] M := by
  have h1 := lx_sq (x := r + b) (n := 1023) (by omega) rb
  have h2 := lx_sq0 (x := r + b) (by omega)
  rw [aq_32_27]
  unfold lx_r1
  simp (disch := first | assumption | omega) only [ax_gt, ax_gi, am_let, Option.bind_some, ax_gbl, ax_gb2, ax_gd, Int.reduceEq, Int.reduceNe, Int.reduceLT, Int.reduceLE, Int.reduceAdd, Int.reduceSub, Int.reduceMul, Int.reduceNeg, reduceIte, ite_true, ite_false, true_and, and_true, false_and, and_false, true_or, or_true, false_or, or_false, not_true_eq_false, not_false_eq_true, and_self, or_self, eq_self, ite_self, decide_true, decide_false, Bool.true_and, Bool.and_true, Bool.and_self, Bool.false_and, ax_w32, if_neg, Int.add_zero]
  split <;> rfl
theorem c_32e {v s r : Int} (r0 : 0 ≤ r) (r1 : r ≤ 1023) : am_Ex d 32 27 [am_N, (0, v), (0, s), (0, r), (0, 0)] [] M = some (if v < 0 then -r else r, M) := by
  rw [aq_32_27]
  simp (disch := first | assumption | omega) only [ax_gt, ax_gi, am_let, Option.bind_some, ax_gbl, ax_gb2, ax_gd, Int.reduceEq, Int.reduceNe, Int.reduceLT, Int.reduceLE, Int.reduceAdd, Int.reduceSub, Int.reduceMul, Int.reduceNeg, reduceIte, ite_true, ite_false, true_and, and_true, false_and, and_false, true_or, or_true, false_or, or_false, not_true_eq_false, not_false_eq_true, and_self, or_self, eq_self, ite_self, decide_true, decide_false, Bool.true_and, Bool.and_true, Bool.and_self, Bool.false_and, ax_w32]
  split <;> rfl
theorem c_32r {v s : Int} : am_Ex d 32 27 [am_N, (0, v), (0, s), (0, 0), (0, 512)] [] M = some (if v < 0 then -(lx_rs s) else lx_rs s, M) := by
  have h0 : (0 : Int) ≤ 0 ∧ (0 : Int) ≤ 0 := by omega
  have h1 := lx_r1r (s := s) (b := 512) h0.1 h0.2 (by omega)
  have h2 := lx_r1r (s := s) (b := 256) h1.1 h1.2 (by omega)
  have h3 := lx_r1r (s := s) (b := 128) h2.1 h2.2 (by omega)
  have h4 := lx_r1r (s := s) (b := 64) h3.1 h3.2 (by omega)
  have h5 := lx_r1r (s := s) (b := 32) h4.1 h4.2 (by omega)
  have h6 := lx_r1r (s := s) (b := 16) h5.1 h5.2 (by omega)
  have h7 := lx_r1r (s := s) (b := 8) h6.1 h6.2 (by omega)
  have h8 := lx_r1r (s := s) (b := 4) h7.1 h7.2 (by omega)
  have h9 := lx_r1r (s := s) (b := 2) h8.1 h8.2 (by omega)
  have h10 := lx_r1r (s := s) (b := 1) h9.1 h9.2 (by omega)
  rw [c_32s h0.1 (by omega) (by omega), show am_shr 512 1 = 256 from by decide]
  rw [c_32s h1.1 (by omega) (by omega), show am_shr 256 1 = 128 from by decide]
  rw [c_32s h2.1 (by omega) (by omega), show am_shr 128 1 = 64 from by decide]
  rw [c_32s h3.1 (by omega) (by omega), show am_shr 64 1 = 32 from by decide]
  rw [c_32s h4.1 (by omega) (by omega), show am_shr 32 1 = 16 from by decide]
  rw [c_32s h5.1 (by omega) (by omega), show am_shr 16 1 = 8 from by decide]
  rw [c_32s h6.1 (by omega) (by omega), show am_shr 8 1 = 4 from by decide]
  rw [c_32s h7.1 (by omega) (by omega), show am_shr 4 1 = 2 from by decide]
  rw [c_32s h8.1 (by omega) (by omega), show am_shr 2 1 = 1 from by decide]
  rw [c_32s h9.1 (by omega) (by omega), show am_shr 1 1 = 0 from by decide]
  exact c_32e h10.1 (by omega)
theorem c_32 {o v : Int} (hv : -1000000 ≤ v ∧ v ≤ 1000000) (h : o = 402 ∨ o = 403 ∨ (o = 405 ∧ (v = 0 ∨ v = 1))) : am_Call d 32 [(0, if o = 402 then 45 else if o = 403 then 24 else 23), (0, v)] M = some (lx_1 o v, M) := by
  rw [aq_32]
  unfold lx_1
  rcases h with rfl | rfl | ⟨rfl, rfl | rfl⟩
  · simp (disch := first | assumption | omega) only [Int.reduceEq, Int.reduceNe, Int.reduceLT, Int.reduceLE, Int.reduceAdd, Int.reduceSub, Int.reduceMul, Int.reduceNeg, reduceIte, ite_true, ite_false, true_and, and_true, false_and, and_false, true_or, or_true, false_or, or_false, not_true_eq_false, not_false_eq_true, and_self, or_self, eq_self, ite_self, decide_true, decide_false, Bool.true_and, Bool.and_true, Bool.and_self, Bool.false_and, ax_w32]
  · unfold lx_rt
    simp (disch := first | assumption | omega) only [Int.reduceEq, Int.reduceNe, Int.reduceLT, Int.reduceLE, Int.reduceAdd, Int.reduceSub, Int.reduceMul, Int.reduceNeg, reduceIte, ite_true, ite_false, true_and, and_true, false_and, and_false, true_or, or_true, false_or, or_false, not_true_eq_false, not_false_eq_true, and_self, or_self, eq_self, ite_self, decide_true, decide_false, Bool.true_and, Bool.and_true, Bool.and_self, Bool.false_and, ax_w32, am_let, c_32r]
    split
    · rename_i h; simp only [if_pos h]
    · rename_i h; simp only [if_neg h]
  · simp (disch := first | assumption | omega) only [Int.reduceEq, Int.reduceNe, Int.reduceLT, Int.reduceLE, Int.reduceAdd, Int.reduceSub, Int.reduceMul, Int.reduceNeg, reduceIte, ite_true, ite_false, true_and, and_true, false_and, and_false, true_or, or_true, false_or, or_false, not_true_eq_false, not_false_eq_true, and_self, or_self, eq_self, ite_self, decide_true, decide_false, Bool.true_and, Bool.and_true, Bool.and_self, Bool.false_and, ax_w32]
  · simp (disch := first | assumption | omega) only [Int.reduceEq, Int.reduceNe, Int.reduceLT, Int.reduceLE, Int.reduceAdd, Int.reduceSub, Int.reduceMul, Int.reduceNeg, reduceIte, ite_true, ite_false, true_and, and_true, false_and, and_false, true_or, or_true, false_or, or_false, not_true_eq_false, not_false_eq_true, and_self, or_self, eq_self, ite_self, decide_true, decide_false, Bool.true_and, Bool.and_true, Bool.and_self, Bool.false_and, ax_w32]
theorem c_33w {v : Int} : am_Ex d 33 102 [am_N, am_N, am_N, (1, v), am_N] [] M = some (lx_bd v, M) := by
  rw [aq_33_102]
  unfold lx_bd
  simp only [ax_cl, ax_cle, aq_33_116]
  (repeat' split) <;> first | rfl | (exfalso; omega) | (rw [ax_w32 (by omega) (by omega)])
def lx_tk (o : Int) : Int := if o = 43 then 33 else if o = 45 then 34 else if o = 42 then 35 else if o = 47 then 36 else if o = 60 then 29 else if o = 62 then 30 else if o = 61 then 31 else if o = 35 then 32 else if o = 300 then 40 else if o = 301 then 41 else if o = 406 then 22 else 21
theorem lx_mulr {a b : Int} (ha : -1000000 ≤ a ∧ a ≤ 1000000) (hb : -1000000 ≤ b ∧ b ≤ 1000000) : -1000000000000 ≤ a * b ∧ a * b ≤ 1000000000000 := by
  have h1 : (a * b).natAbs ≤ 1000000 * 1000000 := by
    rw [Int.natAbs_mul]
    exact Nat.mul_le_mul (by omega) (by omega)
  omega

theorem c_33_431 {a b : Int} : am_Call d 33 [(0, 33), (0, a), (0, b)] M = am_Ex d 33 102 [am_N, am_N, am_N, (1, am_w64 (a + b)), am_N] [] M := by
  rw [aq_33]
  simp only [Int.reduceEq, Int.reduceNe, Int.reduceLT, Int.reduceLE, Int.reduceAdd, Int.reduceSub, Int.reduceMul, Int.reduceNeg, reduceIte, ite_true, ite_false, true_and, and_true, false_and, and_false, true_or, or_true, false_or, or_false, not_true_eq_false, not_false_eq_true, and_self, or_self, eq_self, ite_self, decide_true, decide_false, Bool.true_and, Bool.and_true, Bool.and_self, Bool.false_and]
  rfl
theorem c_33_432 {a b : Int} (ha : -1000000 ≤ a ∧ a ≤ 1000000) (hb : -1000000 ≤ b ∧ b ≤ 1000000) : am_w64 (a + b) = a + b := by
  have hm := lx_mulr ha hb
  exact ax_w64s (by omega) (by omega)
theorem c_33_433 {a b : Int} : lx_2 43 a b = lx_bd (a + b) := if_pos rfl
theorem c_33_43 {a b : Int} (ha : -1000000 ≤ a ∧ a ≤ 1000000) (hb : -1000000 ≤ b ∧ b ≤ 1000000) : am_Call d 33 [(0, lx_tk 43), (0, a), (0, b)] M = some (lx_2 43 a b, M) := by
  rw [show lx_tk 43 = 33 from rfl, c_33_431, c_33_432 ha hb, c_33_433, c_33w]
theorem c_33_451 {a b : Int} : am_Call d 33 [(0, 34), (0, a), (0, b)] M = am_Ex d 33 102 [am_N, am_N, am_N, (1, am_w64 (a - b)), am_N] [] M := by
  rw [aq_33]
  simp only [Int.reduceEq, Int.reduceNe, Int.reduceLT, Int.reduceLE, Int.reduceAdd, Int.reduceSub, Int.reduceMul, Int.reduceNeg, reduceIte, ite_true, ite_false, true_and, and_true, false_and, and_false, true_or, or_true, false_or, or_false, not_true_eq_false, not_false_eq_true, and_self, or_self, eq_self, ite_self, decide_true, decide_false, Bool.true_and, Bool.and_true, Bool.and_self, Bool.false_and]
  rfl
theorem c_33_452 {a b : Int} (ha : -1000000 ≤ a ∧ a ≤ 1000000) (hb : -1000000 ≤ b ∧ b ≤ 1000000) : am_w64 (a - b) = a - b := by
  have hm := lx_mulr ha hb
  exact ax_w64s (by omega) (by omega)
theorem c_33_453 {a b : Int} : lx_2 45 a b = lx_bd (a - b) := (if_neg (by decide)).trans (if_pos rfl)
theorem c_33_45 {a b : Int} (ha : -1000000 ≤ a ∧ a ≤ 1000000) (hb : -1000000 ≤ b ∧ b ≤ 1000000) : am_Call d 33 [(0, lx_tk 45), (0, a), (0, b)] M = some (lx_2 45 a b, M) := by
  rw [show lx_tk 45 = 34 from rfl, c_33_451, c_33_452 ha hb, c_33_453, c_33w]
theorem c_33_421 {a b : Int} : am_Call d 33 [(0, 35), (0, a), (0, b)] M = am_Ex d 33 102 [am_N, am_N, am_N, (1, am_w64 (a * b)), am_N] [] M := by
  rw [aq_33]
  simp only [Int.reduceEq, Int.reduceNe, Int.reduceLT, Int.reduceLE, Int.reduceAdd, Int.reduceSub, Int.reduceMul, Int.reduceNeg, reduceIte, ite_true, ite_false, true_and, and_true, false_and, and_false, true_or, or_true, false_or, or_false, not_true_eq_false, not_false_eq_true, and_self, or_self, eq_self, ite_self, decide_true, decide_false, Bool.true_and, Bool.and_true, Bool.and_self, Bool.false_and]
  rfl
theorem c_33_422 {a b : Int} (ha : -1000000 ≤ a ∧ a ≤ 1000000) (hb : -1000000 ≤ b ∧ b ≤ 1000000) : am_w64 (a * b) = a * b := by
  have hm := lx_mulr ha hb
  exact ax_w64s (by omega) (by omega)
theorem c_33_423 {a b : Int} : lx_2 42 a b = lx_bd (a * b) := (if_neg (by decide)).trans ((if_neg (by decide)).trans (if_pos rfl))
theorem c_33_42 {a b : Int} (ha : -1000000 ≤ a ∧ a ≤ 1000000) (hb : -1000000 ≤ b ∧ b ≤ 1000000) : am_Call d 33 [(0, lx_tk 42), (0, a), (0, b)] M = some (lx_2 42 a b, M) := by
  rw [show lx_tk 42 = 35 from rfl, c_33_421, c_33_422 ha hb, c_33_423, c_33w]
theorem c_33_47 {a b : Int} (ha : -1000000 ≤ a ∧ a ≤ 1000000) (hb : -1000000 ≤ b ∧ b ≤ 1000000) : am_Call d 33 [(0, lx_tk 47), (0, a), (0, b)] M = some (lx_2 47 a b, M) := by
  have hm := lx_mulr ha hb
  rw [aq_33, show lx_tk 47 = 36 from rfl]
  unfold lx_2
  simp (disch := first | assumption | omega) only [Int.reduceEq, Int.reduceNe, Int.reduceLT, Int.reduceLE, Int.reduceAdd, Int.reduceSub, Int.reduceMul, Int.reduceNeg, reduceIte, ite_true, ite_false, true_and, and_true, false_and, and_false, true_or, or_true, false_or, or_false, not_true_eq_false, not_false_eq_true, and_self, or_self, eq_self, ite_self, decide_true, decide_false, Bool.true_and, Bool.and_true, Bool.and_self, Bool.false_and, ax_w64s, am_let, c_33w, aq_33_26, aq_33_33, aq_33_40, aq_33_47, aq_33_54, aq_33_61, aq_33_10, aq_33_19, aq_33_7, aq_33_10a, aq_33_19a, ax_div]
  by_cases h : b = 0 <;> simp (disch := first | assumption | omega) only [Int.reduceEq, Int.reduceNe, Int.reduceLT, Int.reduceLE, Int.reduceAdd, Int.reduceSub, Int.reduceMul, Int.reduceNeg, reduceIte, ite_true, ite_false, true_and, and_true, false_and, and_false, true_or, or_true, false_or, or_false, not_true_eq_false, not_false_eq_true, and_self, or_self, eq_self, ite_self, decide_true, decide_false, Bool.true_and, Bool.and_true, Bool.and_self, Bool.false_and, ax_w64s, am_let, c_33w, ax_div, if_pos, if_neg, h]
  · rw [show lx_bd 0 = 0 from rfl]
  · have h1 := lx_tdr (b := b) ha
    unfold lx_bd
    rw [if_neg (by omega), if_neg (by omega)]
theorem c_33_60 {a b : Int} (ha : -1000000 ≤ a ∧ a ≤ 1000000) (hb : -1000000 ≤ b ∧ b ≤ 1000000) : am_Call d 33 [(0, lx_tk 60), (0, a), (0, b)] M = some (lx_2 60 a b, M) := by
  have hm := lx_mulr ha hb
  rw [aq_33, show lx_tk 60 = 29 from rfl]
  unfold lx_2
  simp (disch := first | assumption | omega) only [Int.reduceEq, Int.reduceNe, Int.reduceLT, Int.reduceLE, Int.reduceAdd, Int.reduceSub, Int.reduceMul, Int.reduceNeg, reduceIte, ite_true, ite_false, true_and, and_true, false_and, and_false, true_or, or_true, false_or, or_false, not_true_eq_false, not_false_eq_true, and_self, or_self, eq_self, ite_self, decide_true, decide_false, Bool.true_and, Bool.and_true, Bool.and_self, Bool.false_and, ax_w64s, am_let, c_33w, aq_33_26, aq_33_33, aq_33_40, aq_33_47, aq_33_54, aq_33_61, aq_33_10, aq_33_19, aq_33_7, aq_33_10a, aq_33_19a, ax_div]
  (unfold ax_b; (repeat' split) <;> first | rfl | (exfalso; omega))
theorem c_33_62 {a b : Int} (ha : -1000000 ≤ a ∧ a ≤ 1000000) (hb : -1000000 ≤ b ∧ b ≤ 1000000) : am_Call d 33 [(0, lx_tk 62), (0, a), (0, b)] M = some (lx_2 62 a b, M) := by
  have hm := lx_mulr ha hb
  rw [aq_33, show lx_tk 62 = 30 from rfl]
  unfold lx_2
  simp (disch := first | assumption | omega) only [Int.reduceEq, Int.reduceNe, Int.reduceLT, Int.reduceLE, Int.reduceAdd, Int.reduceSub, Int.reduceMul, Int.reduceNeg, reduceIte, ite_true, ite_false, true_and, and_true, false_and, and_false, true_or, or_true, false_or, or_false, not_true_eq_false, not_false_eq_true, and_self, or_self, eq_self, ite_self, decide_true, decide_false, Bool.true_and, Bool.and_true, Bool.and_self, Bool.false_and, ax_w64s, am_let, c_33w, aq_33_26, aq_33_33, aq_33_40, aq_33_47, aq_33_54, aq_33_61, aq_33_10, aq_33_19, aq_33_7, aq_33_10a, aq_33_19a, ax_div]
  (unfold ax_b; (repeat' split) <;> first | rfl | (exfalso; omega))
theorem c_33_61 {a b : Int} (ha : -1000000 ≤ a ∧ a ≤ 1000000) (hb : -1000000 ≤ b ∧ b ≤ 1000000) : am_Call d 33 [(0, lx_tk 61), (0, a), (0, b)] M = some (lx_2 61 a b, M) := by
  have hm := lx_mulr ha hb
  rw [aq_33, show lx_tk 61 = 31 from rfl]
  unfold lx_2
  simp (disch := first | assumption | omega) only [Int.reduceEq, Int.reduceNe, Int.reduceLT, Int.reduceLE, Int.reduceAdd, Int.reduceSub, Int.reduceMul, Int.reduceNeg, reduceIte, ite_true, ite_false, true_and, and_true, false_and, and_false, true_or, or_true, false_or, or_false, not_true_eq_false, not_false_eq_true, and_self, or_self, eq_self, ite_self, decide_true, decide_false, Bool.true_and, Bool.and_true, Bool.and_self, Bool.false_and, ax_w64s, am_let, c_33w, aq_33_26, aq_33_33, aq_33_40, aq_33_47, aq_33_54, aq_33_61, aq_33_10, aq_33_19, aq_33_7, aq_33_10a, aq_33_19a, ax_div]
  (unfold ax_b; (repeat' split) <;> first | rfl | (exfalso; omega))
theorem c_33_35 {a b : Int} (ha : -1000000 ≤ a ∧ a ≤ 1000000) (hb : -1000000 ≤ b ∧ b ≤ 1000000) : am_Call d 33 [(0, lx_tk 35), (0, a), (0, b)] M = some (lx_2 35 a b, M) := by
  have hm := lx_mulr ha hb
  rw [aq_33, show lx_tk 35 = 32 from rfl]
  unfold lx_2
  simp (disch := first | assumption | omega) only [Int.reduceEq, Int.reduceNe, Int.reduceLT, Int.reduceLE, Int.reduceAdd, Int.reduceSub, Int.reduceMul, Int.reduceNeg, reduceIte, ite_true, ite_false, true_and, and_true, false_and, and_false, true_or, or_true, false_or, or_false, not_true_eq_false, not_false_eq_true, and_self, or_self, eq_self, ite_self, decide_true, decide_false, Bool.true_and, Bool.and_true, Bool.and_self, Bool.false_and, ax_w64s, am_let, c_33w, aq_33_26, aq_33_33, aq_33_40, aq_33_47, aq_33_54, aq_33_61, aq_33_10, aq_33_19, aq_33_7, aq_33_10a, aq_33_19a, ax_div]
  (unfold ax_b; (repeat' split) <;> first | rfl | (exfalso; omega))
theorem c_33_300 {a b : Int} (ha : -1000000 ≤ a ∧ a ≤ 1000000) (hb : -1000000 ≤ b ∧ b ≤ 1000000) : am_Call d 33 [(0, lx_tk 300), (0, a), (0, b)] M = some (lx_2 300 a b, M) := by
  have hm := lx_mulr ha hb
  rw [aq_33, show lx_tk 300 = 40 from rfl]
  unfold lx_2
  simp (disch := first | assumption | omega) only [Int.reduceEq, Int.reduceNe, Int.reduceLT, Int.reduceLE, Int.reduceAdd, Int.reduceSub, Int.reduceMul, Int.reduceNeg, reduceIte, ite_true, ite_false, true_and, and_true, false_and, and_false, true_or, or_true, false_or, or_false, not_true_eq_false, not_false_eq_true, and_self, or_self, eq_self, ite_self, decide_true, decide_false, Bool.true_and, Bool.and_true, Bool.and_self, Bool.false_and, ax_w64s, am_let, c_33w, aq_33_26, aq_33_33, aq_33_40, aq_33_47, aq_33_54, aq_33_61, aq_33_10, aq_33_19, aq_33_7, aq_33_10a, aq_33_19a, ax_div]
  (unfold ax_b; (repeat' split) <;> first | rfl | (exfalso; omega))
theorem c_33_301 {a b : Int} (ha : -1000000 ≤ a ∧ a ≤ 1000000) (hb : -1000000 ≤ b ∧ b ≤ 1000000) : am_Call d 33 [(0, lx_tk 301), (0, a), (0, b)] M = some (lx_2 301 a b, M) := by
  have hm := lx_mulr ha hb
  rw [aq_33, show lx_tk 301 = 41 from rfl]
  unfold lx_2
  simp (disch := first | assumption | omega) only [Int.reduceEq, Int.reduceNe, Int.reduceLT, Int.reduceLE, Int.reduceAdd, Int.reduceSub, Int.reduceMul, Int.reduceNeg, reduceIte, ite_true, ite_false, true_and, and_true, false_and, and_false, true_or, or_true, false_or, or_false, not_true_eq_false, not_false_eq_true, and_self, or_self, eq_self, ite_self, decide_true, decide_false, Bool.true_and, Bool.and_true, Bool.and_self, Bool.false_and, ax_w64s, am_let, c_33w, aq_33_26, aq_33_33, aq_33_40, aq_33_47, aq_33_54, aq_33_61, aq_33_10, aq_33_19, aq_33_7, aq_33_10a, aq_33_19a, ax_div]
  (unfold ax_b; (repeat' split) <;> first | rfl | (exfalso; omega))
theorem c_33_b {o a b : Int} (ha : 0 ≤ a ∧ a ≤ 1) (hb : 0 ≤ b ∧ b ≤ 1) (h : o = 406 ∨ o = 407) : am_Call d 33 [(0, lx_tk o), (0, a), (0, b)] M = some (lx_2 o a b, M) := by
  have a2 : a = 0 ∨ a = 1 := by omega
  have b2 : b = 0 ∨ b = 1 := by omega
  rw [aq_33]
  rcases h with rfl | rfl
  · rw [show lx_tk 406 = 22 from rfl]
    unfold lx_2
    rcases a2 with rfl | rfl <;> rcases b2 with rfl | rfl <;> simp (disch := first | assumption | omega) only [Int.reduceEq, Int.reduceNe, Int.reduceLT, Int.reduceLE, Int.reduceAdd, Int.reduceSub, Int.reduceMul, Int.reduceNeg, reduceIte, ite_true, ite_false, true_and, and_true, false_and, and_false, true_or, or_true, false_or, or_false, not_true_eq_false, not_false_eq_true, and_self, or_self, eq_self, ite_self, decide_true, decide_false, Bool.true_and, Bool.and_true, Bool.and_self, Bool.false_and, am_let, aq_33_10, aq_33_19, aq_33_7, aq_33_10a, aq_33_19a]
  · rw [show lx_tk 407 = 21 from rfl]
    unfold lx_2 ax_b
    rcases a2 with rfl | rfl <;> rcases b2 with rfl | rfl <;> simp (disch := first | assumption | omega) only [Int.reduceEq, Int.reduceNe, Int.reduceLT, Int.reduceLE, Int.reduceAdd, Int.reduceSub, Int.reduceMul, Int.reduceNeg, reduceIte, ite_true, ite_false, true_and, and_true, false_and, and_false, true_or, or_true, false_or, or_false, not_true_eq_false, not_false_eq_true, and_self, or_self, eq_self, ite_self, decide_true, decide_false, Bool.true_and, Bool.and_true, Bool.and_self, Bool.false_and, am_let, aq_33_10, aq_33_19, aq_33_7, aq_33_10a, aq_33_19a]
end
