/-! THE LAWS on the model's side -/
section
variable {M : am_M} {d : Nat}
theorem m_84 {v : Int} : am_Call d 84 [(1, v)] M = some (lx_bd v, M) := by
  rw [aq_84]
  unfold lx_bd
  simp only [ax_cl, ax_cle]
  (repeat' split) <;> first | rfl | (exfalso; omega)
theorem m_85s {v s r b : Int} (r0 : 0 ≤ r) (b0 : 0 < b) (b1 : b ≤ 1024) (rb : r + b ≤ 2047) : am_Ex d 85 14 [(1, v), am_N, (1, s), am_N, (1, r), am_N, (1, b), am_N] [] M = am_Ex d 85 14 [(1, v), am_N, (1, s), am_N, (1, lx_r1 s r b), am_N, (1, Int.tdiv b 2), am_N] [] M := by
  have h1 := lx_sq (x := r + b) (n := 2047) (by omega) rb
  have h2 := lx_sq0 (x := r + b) (by omega)
  have e1 : am_w64 (r + b) = r + b := ax_w64s (by omega) (by omega)
  have e2 : am_w64 ((r + b) * (r + b)) = (r + b) * (r + b) := ax_w64s (by omega) (by omega)
  have e3 : am_w64 r = r := ax_w64s (by omega) (by omega)
  have e4 : am_ldiv b 2 = Int.tdiv b 2 := ax_ldiv (by omega) (by omega) (by omega) (by omega)
  rw [aq_85_14]
  unfold lx_r1
  simp only [ax_cle, e1, e2, Int.add_zero, e3, e4, ax_let]
  rw [if_neg (by omega)]
  split <;> rfl
theorem m_85e {v s r : Int} (r0 : 0 ≤ r) (r1 : r ≤ 2047) : am_Ex d 85 14 [(1, v), am_N, (1, s), am_N, (1, r), am_N, (1, 0), am_N] [] M = some (if v < 0 then -r else r, M) := by
  have e1 : am_w64 (-r) = -r := ax_w64s (by omega) (by omega)
  rw [aq_85_14]
  simp only [ax_cle, ax_cl, e1]
  rw [if_pos (by omega)]
  split <;> rfl
theorem m_85r {v s : Int} (hs : s ≤ 1000000) : am_Ex d 85 14 [(1, v), am_N, (1, s), am_N, (1, 0), am_N, (1, 1024), am_N] [] M = some (if v < 0 then -(lx_rs s) else lx_rs s, M) := by
  have h0 : (0 : Int) ≤ 0 ∧ (0 : Int) ≤ 0 := by omega
  have hz : lx_r1 s 0 1024 = 0 := by unfold lx_r1; rw [if_neg (by omega)]
  rw [m_85s (by omega) (by omega) (by omega) (by omega), hz, show Int.tdiv 1024 2 = 512 from by decide]
  have h1 := lx_r1r (s := s) (b := 512) h0.1 h0.2 (by omega)
  have h2 := lx_r1r (s := s) (b := 256) h1.1 h1.2 (by omega)
  have h3 := lx_r1r (s := s) (b := 128) h2.1 h2.2 (by omega)
  have h4 := lx_r1r (s := s) (b := 64) h3.1 h3.2 (by omega)
  have h5 := lx_r1r (s := s) (b := 32) h4.1 h4.2 (by omega)
  have h6 := lx_r1r (s := s) (b := 16) h5.1 h5.2 (by omega)
  have h7 := lx_r1r (s := s) (b := 8) h6.1 h6.2 (by omega)
  have h8 := lx_r1r (s := s) (b := 4) h7.1 h7.2 (by omega)
  have h9 := lx_r1r (s := s) (b := 2) h8.1 h8.2 (by omega)
  have h10 := lx_r1r (s := s) (b := 1) h9.1 h9.2 (by omega)
  rw [m_85s h0.1 (by omega) (by omega) (by omega), show Int.tdiv 512 2 = 256 from by decide]
  rw [m_85s h1.1 (by omega) (by omega) (by omega), show Int.tdiv 256 2 = 128 from by decide]
  rw [m_85s h2.1 (by omega) (by omega) (by omega), show Int.tdiv 128 2 = 64 from by decide]
  rw [m_85s h3.1 (by omega) (by omega) (by omega), show Int.tdiv 64 2 = 32 from by decide]
  rw [m_85s h4.1 (by omega) (by omega) (by omega), show Int.tdiv 32 2 = 16 from by decide]
  rw [m_85s h5.1 (by omega) (by omega) (by omega), show Int.tdiv 16 2 = 8 from by decide]
  rw [m_85s h6.1 (by omega) (by omega) (by omega), show Int.tdiv 8 2 = 4 from by decide]
  rw [m_85s h7.1 (by omega) (by omega) (by omega), show Int.tdiv 4 2 = 2 from by decide]
  rw [m_85s h8.1 (by omega) (by omega) (by omega), show Int.tdiv 2 2 = 1 from by decide]
  rw [m_85s h9.1 (by omega) (by omega) (by omega), show Int.tdiv 1 2 = 0 from by decide]
  exact m_85e h10.1 (by omega)
theorem m_85 {v : Int} (hv : -1000000 ≤ v ∧ v ≤ 1000000) : am_Call d 85 [(1, v)] M = some (lx_rt v, M) := by
  have e1 : am_w64 (-v) = -v := ax_w64s (by omega) (by omega)
  rw [aq_85]
  unfold lx_rt
  simp only [ax_cl, e1, ax_let]
  by_cases h : v < 0
  · rw [if_pos h, if_pos h, m_85r (by omega), if_pos h]
  · rw [if_neg h, if_neg h, m_85r (by omega), if_neg h]
theorem m_155 {o a b : Int} (ha : -1000000 ≤ a ∧ a ≤ 1000000) (hb : -1000000 ≤ b ∧ b ≤ 1000000) (h : o = 43 ∨ o = 45 ∨ o = 42 ∨ o = 47 ∨ o = 60 ∨ o = 62 ∨ o = 61 ∨ o = 35 ∨ o = 300 ∨ o = 301 ∨ o = 406 ∨ o = 407) : am_Call d 155 [(0, o), (1, a), (1, b)] M = some (lx_2 o a b, M) := by
  have hm := lx_mulr ha hb
  have w1 : am_w64 (a + b) = a + b := ax_w64s (by omega) (by omega)
  have w2 : am_w64 (a - b) = a - b := ax_w64s (by omega) (by omega)
  have w3 : am_w64 (a * b) = a * b := ax_w64s (by omega) (by omega)
  have w4 : am_ldiv a b = Int.tdiv a b := ax_ldiv ha.1 ha.2 hb.1 hb.2
  rw [aq_155]
  rcases h with rfl | rfl | rfl | rfl | rfl | rfl | rfl | rfl | rfl | rfl | rfl | rfl
  · rw [c_33_433]; simp only [Int.reduceEq, Int.reduceNe, Int.reduceLT, Int.reduceLE, Int.reduceAdd, Int.reduceSub, Int.reduceMul, Int.reduceNeg, reduceIte, ite_true, ite_false, true_and, and_true, false_and, and_false, true_or, or_true, false_or, or_false, not_true_eq_false, not_false_eq_true, and_self, or_self, eq_self, ite_self, decide_true, decide_false, Bool.true_and, Bool.and_true, Bool.and_self, Bool.false_and, Int.sub_zero, Int.add_zero, Int.zero_add, ax_gt, ax_gi, Option.bind_some, ax_gbl, ax_gb2, ax_gd, w1, m_84]
  · rw [c_33_453]; simp only [Int.reduceEq, Int.reduceNe, Int.reduceLT, Int.reduceLE, Int.reduceAdd, Int.reduceSub, Int.reduceMul, Int.reduceNeg, reduceIte, ite_true, ite_false, true_and, and_true, false_and, and_false, true_or, or_true, false_or, or_false, not_true_eq_false, not_false_eq_true, and_self, or_self, eq_self, ite_self, decide_true, decide_false, Bool.true_and, Bool.and_true, Bool.and_self, Bool.false_and, Int.sub_zero, Int.add_zero, Int.zero_add, ax_gt, ax_gi, Option.bind_some, ax_gbl, ax_gb2, ax_gd, w2, m_84]
  · rw [c_33_423]; simp only [Int.reduceEq, Int.reduceNe, Int.reduceLT, Int.reduceLE, Int.reduceAdd, Int.reduceSub, Int.reduceMul, Int.reduceNeg, reduceIte, ite_true, ite_false, true_and, and_true, false_and, and_false, true_or, or_true, false_or, or_false, not_true_eq_false, not_false_eq_true, and_self, or_self, eq_self, ite_self, decide_true, decide_false, Bool.true_and, Bool.and_true, Bool.and_self, Bool.false_and, Int.sub_zero, Int.add_zero, Int.zero_add, ax_gt, ax_gi, Option.bind_some, ax_gbl, ax_gb2, ax_gd, w3, m_84]
  · unfold lx_2; simp only [Int.reduceEq, Int.reduceNe, Int.reduceLT, Int.reduceLE, Int.reduceAdd, Int.reduceSub, Int.reduceMul, Int.reduceNeg, reduceIte, ite_true, ite_false, true_and, and_true, false_and, and_false, true_or, or_true, false_or, or_false, not_true_eq_false, not_false_eq_true, and_self, or_self, eq_self, ite_self, decide_true, decide_false, Bool.true_and, Bool.and_true, Bool.and_self, Bool.false_and, Int.sub_zero, Int.add_zero, Int.zero_add, ax_gt, ax_gi, Option.bind_some, ax_gbl, ax_gb2, ax_gd, w4, ax_ce]
    (repeat' split) <;> first | rfl | (exfalso; omega)
  · unfold lx_2; simp only [Int.reduceEq, Int.reduceNe, Int.reduceLT, Int.reduceLE, Int.reduceAdd, Int.reduceSub, Int.reduceMul, Int.reduceNeg, reduceIte, ite_true, ite_false, true_and, and_true, false_and, and_false, true_or, or_true, false_or, or_false, not_true_eq_false, not_false_eq_true, and_self, or_self, eq_self, ite_self, decide_true, decide_false, Bool.true_and, Bool.and_true, Bool.and_self, Bool.false_and, Int.sub_zero, Int.add_zero, Int.zero_add, ax_cl]; (unfold ax_b; (repeat' split) <;> first | rfl | (exfalso; omega))
  · unfold lx_2; simp only [Int.reduceEq, Int.reduceNe, Int.reduceLT, Int.reduceLE, Int.reduceAdd, Int.reduceSub, Int.reduceMul, Int.reduceNeg, reduceIte, ite_true, ite_false, true_and, and_true, false_and, and_false, true_or, or_true, false_or, or_false, not_true_eq_false, not_false_eq_true, and_self, or_self, eq_self, ite_self, decide_true, decide_false, Bool.true_and, Bool.and_true, Bool.and_self, Bool.false_and, Int.sub_zero, Int.add_zero, Int.zero_add, ax_cle]; (unfold ax_b; (repeat' split) <;> first | rfl | (exfalso; omega))
  · unfold lx_2; simp only [Int.reduceEq, Int.reduceNe, Int.reduceLT, Int.reduceLE, Int.reduceAdd, Int.reduceSub, Int.reduceMul, Int.reduceNeg, reduceIte, ite_true, ite_false, true_and, and_true, false_and, and_false, true_or, or_true, false_or, or_false, not_true_eq_false, not_false_eq_true, and_self, or_self, eq_self, ite_self, decide_true, decide_false, Bool.true_and, Bool.and_true, Bool.and_self, Bool.false_and, Int.sub_zero, Int.add_zero, Int.zero_add, ax_ce]; (unfold ax_b; (repeat' split) <;> first | rfl | (exfalso; omega))
  · unfold lx_2; simp only [Int.reduceEq, Int.reduceNe, Int.reduceLT, Int.reduceLE, Int.reduceAdd, Int.reduceSub, Int.reduceMul, Int.reduceNeg, reduceIte, ite_true, ite_false, true_and, and_true, false_and, and_false, true_or, or_true, false_or, or_false, not_true_eq_false, not_false_eq_true, and_self, or_self, eq_self, ite_self, decide_true, decide_false, Bool.true_and, Bool.and_true, Bool.and_self, Bool.false_and, Int.sub_zero, Int.add_zero, Int.zero_add, ax_ce]; (unfold ax_b; (repeat' split) <;> first | rfl | (exfalso; omega))
  · unfold lx_2; simp only [Int.reduceEq, Int.reduceNe, Int.reduceLT, Int.reduceLE, Int.reduceAdd, Int.reduceSub, Int.reduceMul, Int.reduceNeg, reduceIte, ite_true, ite_false, true_and, and_true, false_and, and_false, true_or, or_true, false_or, or_false, not_true_eq_false, not_false_eq_true, and_self, or_self, eq_self, ite_self, decide_true, decide_false, Bool.true_and, Bool.and_true, Bool.and_self, Bool.false_and, Int.sub_zero, Int.add_zero, Int.zero_add, ax_cle]; (unfold ax_b; (repeat' split) <;> first | rfl | (exfalso; omega))
  · unfold lx_2; simp only [Int.reduceEq, Int.reduceNe, Int.reduceLT, Int.reduceLE, Int.reduceAdd, Int.reduceSub, Int.reduceMul, Int.reduceNeg, reduceIte, ite_true, ite_false, true_and, and_true, false_and, and_false, true_or, or_true, false_or, or_false, not_true_eq_false, not_false_eq_true, and_self, or_self, eq_self, ite_self, decide_true, decide_false, Bool.true_and, Bool.and_true, Bool.and_self, Bool.false_and, Int.sub_zero, Int.add_zero, Int.zero_add, ax_cl]; (unfold ax_b; (repeat' split) <;> first | rfl | (exfalso; omega))
  · unfold lx_2; simp only [Int.reduceEq, Int.reduceNe, Int.reduceLT, Int.reduceLE, Int.reduceAdd, Int.reduceSub, Int.reduceMul, Int.reduceNeg, reduceIte, ite_true, ite_false, true_and, and_true, false_and, and_false, true_or, or_true, false_or, or_false, not_true_eq_false, not_false_eq_true, and_self, or_self, eq_self, ite_self, decide_true, decide_false, Bool.true_and, Bool.and_true, Bool.and_self, Bool.false_and, Int.sub_zero, Int.add_zero, Int.zero_add, w3]
  · unfold lx_2; simp only [Int.reduceEq, Int.reduceNe, Int.reduceLT, Int.reduceLE, Int.reduceAdd, Int.reduceSub, Int.reduceMul, Int.reduceNeg, reduceIte, ite_true, ite_false, true_and, and_true, false_and, and_false, true_or, or_true, false_or, or_false, not_true_eq_false, not_false_eq_true, and_self, or_self, eq_self, ite_self, decide_true, decide_false, Bool.true_and, Bool.and_true, Bool.and_self, Bool.false_and, Int.sub_zero, Int.add_zero, Int.zero_add, w1, ax_cle]; (unfold ax_b; (repeat' split) <;> first | rfl | (exfalso; omega))
def lx_P (M : am_M) : Int → List Int → Prop
  | _, [] => True
  | n, b :: r => am_rd M 471 (n - 1) = b ∧ lx_P M (n - 1) r
theorem lx_P_wr {M : am_M} {v : Int} : ∀ (r : List Int) (n i : Int), n ≤ i → lx_P M n r → lx_P (am_wr M 471 i v) n r := by
  intro r
  induction r with
  | nil => intro n i _ _; trivial
  | cons b r ih =>
    intro n i h hs
    exact ⟨(ax_wi (by omega)).trans hs.1, ih (n - 1) i (by omega) hs.2⟩
noncomputable def lx_qX (d : Nat) (n i : Int) (M : am_M) : Option (Int × am_M) := am_Ex d 195 5 [(2, 447), am_N, (0, n), (0, i), am_N] [] M
section
variable {n i : Int} {N : Int → Int}
theorem m_195num (hK : ax_K M) (i0 : 0 ≤ i) (i1 : i < 1599) (n0 : 0 ≤ n) (n1 : n < 62) (ho : am_rd M 457 i = 400) : lx_qX d n i M = lx_qX d (n + 1) (i + 1) (am_wr M 471 n (am_rd M 458 i)) := by
  unfold lx_qX
  rw [aq_195_5]
  simp (disch := first | assumption | omega) only [ax_gt, ax_gi, Option.bind_some, ax_gbl, ax_gb2, ax_gd, Int.reduceEq, Int.reduceNe, Int.reduceLT, Int.reduceLE, Int.reduceAdd, Int.reduceSub, Int.reduceMul, Int.reduceNeg, reduceIte, ite_true, ite_false, true_and, and_true, false_and, and_false, true_or, or_true, false_or, or_false, not_true_eq_false, not_false_eq_true, and_self, or_self, eq_self, ite_self, decide_true, decide_false, Bool.true_and, Bool.and_true, Bool.and_self, Bool.false_and, Int.sub_zero, Int.add_zero, Int.zero_add, ax_rw, if_pos, if_neg, ax_w32, ax_o_447, ax_a_457, kr_447_12, ax_a_471, kr_447_40, ho]
  rw [ax_let]
  simp (disch := first | assumption | omega) only [ax_gt, ax_gi, Option.bind_some, ax_gbl, ax_gb2, ax_gd, Int.reduceEq, Int.reduceNe, Int.reduceLT, Int.reduceLE, Int.reduceAdd, Int.reduceSub, Int.reduceMul, Int.reduceNeg, reduceIte, ite_true, ite_false, true_and, and_true, false_and, and_false, true_or, or_true, false_or, or_false, not_true_eq_false, not_false_eq_true, and_self, or_self, eq_self, ite_self, decide_true, decide_false, Bool.true_and, Bool.and_true, Bool.and_self, Bool.false_and, Int.sub_zero, Int.add_zero, Int.zero_add]
  rw [aq_195_23]
  simp (disch := first | assumption | omega) only [ax_gt, ax_gi, Option.bind_some, ax_gbl, ax_gb2, ax_gd, Int.reduceEq, Int.reduceNe, Int.reduceLT, Int.reduceLE, Int.reduceAdd, Int.reduceSub, Int.reduceMul, Int.reduceNeg, reduceIte, ite_true, ite_false, true_and, and_true, false_and, and_false, true_or, or_true, false_or, or_false, not_true_eq_false, not_false_eq_true, and_self, or_self, eq_self, ite_self, decide_true, decide_false, Bool.true_and, Bool.and_true, Bool.and_self, Bool.false_and, Int.sub_zero, Int.add_zero, Int.zero_add, ax_rw, if_pos, if_neg, ax_w32, ax_let, ax_o_447, ax_a_457, kr_447_12, ax_a_458, kr_447_13, ax_a_471, kr_447_40]
  rw [aq_195_118]
  simp (disch := first | assumption | omega) only [ax_gt, ax_gi, Option.bind_some, ax_gbl, ax_gb2, ax_gd, Int.reduceEq, Int.reduceNe, Int.reduceLT, Int.reduceLE, Int.reduceAdd, Int.reduceSub, Int.reduceMul, Int.reduceNeg, reduceIte, ite_true, ite_false, true_and, and_true, false_and, and_false, true_or, or_true, false_or, or_false, not_true_eq_false, not_false_eq_true, and_self, or_self, eq_self, ite_self, decide_true, decide_false, Bool.true_and, Bool.and_true, Bool.and_self, Bool.false_and, Int.sub_zero, Int.add_zero, Int.zero_add, ax_rw, if_pos, if_neg, ax_w32, ax_let]
theorem m_195name (hK : ax_K M) (i0 : 0 ≤ i) (i1 : i < 1599) (n0 : 0 ≤ n) (n1 : n < 62) (ho : am_rd M 457 i = 401) (h0 : 0 ≤ am_rd M 458 i) (h1 : am_rd M 458 i < 9) : lx_qX d n i M = lx_qX d (n + 1) (i + 1) (am_wr M 471 n (am_rd M 470 (am_rd M 458 i))) := by
  unfold lx_qX
  rw [aq_195_5]
  simp (disch := first | assumption | omega) only [ax_gt, ax_gi, Option.bind_some, ax_gbl, ax_gb2, ax_gd, Int.reduceEq, Int.reduceNe, Int.reduceLT, Int.reduceLE, Int.reduceAdd, Int.reduceSub, Int.reduceMul, Int.reduceNeg, reduceIte, ite_true, ite_false, true_and, and_true, false_and, and_false, true_or, or_true, false_or, or_false, not_true_eq_false, not_false_eq_true, and_self, or_self, eq_self, ite_self, decide_true, decide_false, Bool.true_and, Bool.and_true, Bool.and_self, Bool.false_and, Int.sub_zero, Int.add_zero, Int.zero_add, ax_rw, if_pos, if_neg, ax_w32, ax_o_447, ax_a_457, kr_447_12, ax_a_471, kr_447_40, ho]
  rw [ax_let]
  simp (disch := first | assumption | omega) only [ax_gt, ax_gi, Option.bind_some, ax_gbl, ax_gb2, ax_gd, Int.reduceEq, Int.reduceNe, Int.reduceLT, Int.reduceLE, Int.reduceAdd, Int.reduceSub, Int.reduceMul, Int.reduceNeg, reduceIte, ite_true, ite_false, true_and, and_true, false_and, and_false, true_or, or_true, false_or, or_false, not_true_eq_false, not_false_eq_true, and_self, or_self, eq_self, ite_self, decide_true, decide_false, Bool.true_and, Bool.and_true, Bool.and_self, Bool.false_and, Int.sub_zero, Int.add_zero, Int.zero_add]
  rw [aq_195_23]
  simp (disch := first | assumption | omega) only [ax_gt, ax_gi, Option.bind_some, ax_gbl, ax_gb2, ax_gd, Int.reduceEq, Int.reduceNe, Int.reduceLT, Int.reduceLE, Int.reduceAdd, Int.reduceSub, Int.reduceMul, Int.reduceNeg, reduceIte, ite_true, ite_false, true_and, and_true, false_and, and_false, true_or, or_true, false_or, or_false, not_true_eq_false, not_false_eq_true, and_self, or_self, eq_self, ite_self, decide_true, decide_false, Bool.true_and, Bool.and_true, Bool.and_self, Bool.false_and, Int.sub_zero, Int.add_zero, Int.zero_add, ax_rw, if_pos, if_neg, ax_w32, ax_let, ax_o_447, ax_a_457, kr_447_12, ax_a_458, kr_447_13, ax_a_470, kr_447_39, ax_a_471, kr_447_40]
  rw [aq_195_118]
  simp (disch := first | assumption | omega) only [ax_gt, ax_gi, Option.bind_some, ax_gbl, ax_gb2, ax_gd, Int.reduceEq, Int.reduceNe, Int.reduceLT, Int.reduceLE, Int.reduceAdd, Int.reduceSub, Int.reduceMul, Int.reduceNeg, reduceIte, ite_true, ite_false, true_and, and_true, false_and, and_false, true_or, or_true, false_or, or_false, not_true_eq_false, not_false_eq_true, and_self, or_self, eq_self, ite_self, decide_true, decide_false, Bool.true_and, Bool.and_true, Bool.and_self, Bool.false_and, Int.sub_zero, Int.add_zero, Int.zero_add, ax_rw, if_pos, if_neg, ax_w32, ax_let]
theorem m_195one (hK : ax_K M) (i0 : 0 ≤ i) (i1 : i < 1599) (n0 : 1 ≤ n) (n1 : n < 64) {o b : Int} (ho : o = 402 ∨ o = 403 ∨ o = 405) (hc : am_rd M 457 i = o) (hb : am_rd M 471 (n - 1) = b) (b0 : -1000000 ≤ b ∧ b ≤ 1000000) : lx_qX d n i M = lx_qX d n (i + 1) (am_wr M 471 (n - 1) (lx_1 o b)) := by
  have w1 : am_w64 (-b) = -b := ax_w64s (by omega) (by omega)
  have w2 : am_w64 (1 - b) = 1 - b := ax_w64s (by omega) (by omega)
  have e85 := fun d => m_85 (M := M) (d := d) b0
  unfold lx_qX lx_1
  rw [aq_195_5]
  rcases ho with rfl | rfl | rfl
  all_goals
    simp (disch := first | assumption | omega) only [ax_gt, ax_gi, Option.bind_some, ax_gbl, ax_gb2, ax_gd, Int.reduceEq, Int.reduceNe, Int.reduceLT, Int.reduceLE, Int.reduceAdd, Int.reduceSub, Int.reduceMul, Int.reduceNeg, reduceIte, ite_true, ite_false, true_and, and_true, false_and, and_false, true_or, or_true, false_or, or_false, not_true_eq_false, not_false_eq_true, and_self, or_self, eq_self, ite_self, decide_true, decide_false, Bool.true_and, Bool.and_true, Bool.and_self, Bool.false_and, Int.sub_zero, Int.add_zero, Int.zero_add, ax_rw, if_pos, if_neg, ax_w32, ax_o_447, ax_a_457, kr_447_12, ax_a_471, kr_447_40, hc]
    rw [ax_let]
    simp (disch := first | assumption | omega) only [ax_gt, ax_gi, Option.bind_some, ax_gbl, ax_gb2, ax_gd, Int.reduceEq, Int.reduceNe, Int.reduceLT, Int.reduceLE, Int.reduceAdd, Int.reduceSub, Int.reduceMul, Int.reduceNeg, reduceIte, ite_true, ite_false, true_and, and_true, false_and, and_false, true_or, or_true, false_or, or_false, not_true_eq_false, not_false_eq_true, and_self, or_self, eq_self, ite_self, decide_true, decide_false, Bool.true_and, Bool.and_true, Bool.and_self, Bool.false_and, Int.sub_zero, Int.add_zero, Int.zero_add, ax_rw, if_pos, if_neg, ax_w32, ax_o_447, ax_a_457, kr_447_12, ax_a_471, kr_447_40, hb, w1, w2, e85]
    rw [ax_let, aq_195_118]
    simp (disch := first | assumption | omega) only [ax_gt, ax_gi, Option.bind_some, ax_gbl, ax_gb2, ax_gd, Int.reduceEq, Int.reduceNe, Int.reduceLT, Int.reduceLE, Int.reduceAdd, Int.reduceSub, Int.reduceMul, Int.reduceNeg, reduceIte, ite_true, ite_false, true_and, and_true, false_and, and_false, true_or, or_true, false_or, or_false, not_true_eq_false, not_false_eq_true, and_self, or_self, eq_self, ite_self, decide_true, decide_false, Bool.true_and, Bool.and_true, Bool.and_self, Bool.false_and, Int.sub_zero, Int.add_zero, Int.zero_add, ax_rw, if_pos, if_neg, ax_w32, ax_let]
theorem m_195two (hK : ax_K M) (i0 : 0 ≤ i) (i1 : i < 1599) (n0 : 2 ≤ n) (n1 : n < 64) {o a b : Int} (ho : o = 43 ∨ o = 45 ∨ o = 42 ∨ o = 47 ∨ o = 60 ∨ o = 62 ∨ o = 61 ∨ o = 35 ∨ o = 300 ∨ o = 301 ∨ o = 406 ∨ o = 407) (hc : am_rd M 457 i = o) (hb : am_rd M 471 (n - 1) = b) (ha : am_rd M 471 (n - 1 - 1) = a) (a0 : -1000000 ≤ a ∧ a ≤ 1000000) (b0 : -1000000 ≤ b ∧ b ≤ 1000000) : lx_qX d n i M = lx_qX d (n - 1) (i + 1) (am_wr M 471 (n - 1 - 1) (lx_2 o a b)) := by
  have e155 := fun d => m_155 (M := M) (d := d) a0 b0 ho
  have e0 : n + -1 = n - 1 := by omega
  have n1 : ¬ o = 408 ∧ ¬ o = 400 ∧ ¬ o = 401 ∧ ¬ o = 402 ∧ ¬ o = 403 ∧ ¬ o = 405 := by omega
  unfold lx_qX
  rw [aq_195_5]
  simp (disch := first | assumption | omega) only [ax_gt, ax_gi, Option.bind_some, ax_gbl, ax_gb2, ax_gd, Int.reduceEq, Int.reduceNe, Int.reduceLT, Int.reduceLE, Int.reduceAdd, Int.reduceSub, Int.reduceMul, Int.reduceNeg, reduceIte, ite_true, ite_false, true_and, and_true, false_and, and_false, true_or, or_true, false_or, or_false, not_true_eq_false, not_false_eq_true, and_self, or_self, eq_self, ite_self, decide_true, decide_false, Bool.true_and, Bool.and_true, Bool.and_self, Bool.false_and, Int.sub_zero, Int.add_zero, Int.zero_add, ax_rw, if_pos, if_neg, ax_w32, ax_o_447, ax_a_457, kr_447_12, ax_a_471, kr_447_40, hc]
  rw [ax_let]
  simp (disch := first | assumption | omega) only [ax_gt, ax_gi, Option.bind_some, ax_gbl, ax_gb2, ax_gd, Int.reduceEq, Int.reduceNe, Int.reduceLT, Int.reduceLE, Int.reduceAdd, Int.reduceSub, Int.reduceMul, Int.reduceNeg, reduceIte, ite_true, ite_false, true_and, and_true, false_and, and_false, true_or, or_true, false_or, or_false, not_true_eq_false, not_false_eq_true, and_self, or_self, eq_self, ite_self, decide_true, decide_false, Bool.true_and, Bool.and_true, Bool.and_self, Bool.false_and, Int.sub_zero, Int.add_zero, Int.zero_add, ax_rw, if_pos, if_neg, n1]
  rw [ax_let]
  simp (disch := first | assumption | omega) only [ax_gt, ax_gi, Option.bind_some, ax_gbl, ax_gb2, ax_gd, Int.reduceEq, Int.reduceNe, Int.reduceLT, Int.reduceLE, Int.reduceAdd, Int.reduceSub, Int.reduceMul, Int.reduceNeg, reduceIte, ite_true, ite_false, true_and, and_true, false_and, and_false, true_or, or_true, false_or, or_false, not_true_eq_false, not_false_eq_true, and_self, or_self, eq_self, ite_self, decide_true, decide_false, Bool.true_and, Bool.and_true, Bool.and_self, Bool.false_and, Int.sub_zero, Int.add_zero, Int.zero_add, ax_rw, if_pos, if_neg, ax_w32, ax_o_447, ax_a_457, kr_447_12, ax_a_471, kr_447_40, e0, hb, ha, e155]
  rw [ax_let, aq_195_118]
  simp (disch := first | assumption | omega) only [ax_gt, ax_gi, Option.bind_some, ax_gbl, ax_gb2, ax_gd, Int.reduceEq, Int.reduceNe, Int.reduceLT, Int.reduceLE, Int.reduceAdd, Int.reduceSub, Int.reduceMul, Int.reduceNeg, reduceIte, ite_true, ite_false, true_and, and_true, false_and, and_false, true_or, or_true, false_or, or_false, not_true_eq_false, not_false_eq_true, and_self, or_self, eq_self, ite_self, decide_true, decide_false, Bool.true_and, Bool.and_true, Bool.and_self, Bool.false_and, Int.sub_zero, Int.add_zero, Int.zero_add, ax_rw, if_pos, if_neg, ax_w32, ax_let]
/-- one row of code -/
theorem m_195s (hK : ax_K M) (i0 : 0 ≤ i) (i1 : i < 1599) {k : Int} {ts ts' : List Bool} {vs : List Int} {x : Int × Int} (hNm : ∀ j, lx_may k j = true → am_rd M 470 j = N j) (hn : n = (vs.length : Int)) (hl : vs.length < 62) (hV : lx_V ts vs) (hS : lx_P M n vs) (hc : am_rd M 457 i = x.1 ∧ (x.1 = 400 ∨ x.1 = 401 → am_rd M 458 i = x.2)) (ht : lx_t k ts x = some ts') : ∃ j v, lx_qX d n i M = lx_qX d ((lx_s N vs x).length : Int) (i + 1) (am_wr M 471 j v) ∧ lx_P (am_wr M 471 j v) ((lx_s N vs x).length : Int) (lx_s N vs x) ∧ (lx_s N vs x).length < 62 := by
  have hlen := lx_V_len hV
  unfold lx_t at ht
  unfold lx_s
  by_cases h1 : x.1 = 400
  · have hx := hc.2 (by omega)
    rw [if_pos h1] at ht ⊢
    split at ht
    · rename_i h
      refine ⟨n, x.2, ?_, ?_, ?_⟩
      · rw [m_195num hK i0 i1 (by omega) (by omega) (hc.1.trans h1), hn, hx]
        rfl
      · refine ⟨?_, ?_⟩
        · rw [show ((x.2 :: vs).length : Int) - 1 = n from by rw [hn, List.length_cons]; omega]
          exact ax_ws
        · rw [show ((x.2 :: vs).length : Int) - 1 = n from by rw [hn, List.length_cons]; omega]
          exact lx_P_wr _ _ _ (by omega) hS
      · rw [List.length_cons]; omega
    · cases ht
  rw [if_neg h1] at ht ⊢
  by_cases h2 : x.1 = 401
  · have hx := hc.2 (by omega)
    rw [if_pos h2] at ht ⊢
    split at ht
    · rename_i h
      have hm := h.1
      unfold lx_may at hm
      simp only [Bool.and_eq_true, Bool.or_eq_true, decide_eq_true_eq] at hm
      refine ⟨n, N x.2, ?_, ?_, ?_⟩
      · rw [m_195name hK i0 i1 (by omega) (by omega) (hc.1.trans h2) (by omega) (by omega), hx, hNm x.2 h.1, hn]
        rfl
      · refine ⟨?_, ?_⟩
        · rw [show ((N x.2 :: vs).length : Int) - 1 = n from by rw [hn, List.length_cons]; omega]
          exact ax_ws
        · rw [show ((N x.2 :: vs).length : Int) - 1 = n from by rw [hn, List.length_cons]; omega]
          exact lx_P_wr _ _ _ (by omega) hS
      · rw [List.length_cons]; omega
    · cases ht
  rw [if_neg h2] at ht ⊢
  cases ts with
  | nil => cases ht
  | cons b r =>
    cases vs with
    | nil => exact hV.elim
    | cons vb vr =>
      obtain ⟨hb, hr⟩ := hV
      obtain ⟨sb, sr⟩ := hS
      rw [List.length_cons] at hn hl
      dsimp only at ht ⊢
      have one : (x.1 = 402 ∨ x.1 = 403 ∨ x.1 = 405) → (-1000000 ≤ vb ∧ vb ≤ 1000000) → ∃ j v, lx_qX d n i M = lx_qX d ((lx_1 x.1 vb :: vr).length : Int) (i + 1) (am_wr M 471 j v) ∧ lx_P (am_wr M 471 j v) ((lx_1 x.1 vb :: vr).length : Int) (lx_1 x.1 vb :: vr) ∧ (lx_1 x.1 vb :: vr).length < 62 := by
        intro ho hv
        refine ⟨n - 1, lx_1 x.1 vb, ?_, ?_, ?_⟩
        · rw [m_195one hK i0 i1 (by omega) (by omega) ho hc.1 sb hv, List.length_cons, ← hn]
        · rw [List.length_cons, ← hn]
          exact ⟨ax_ws, lx_P_wr _ _ _ (by omega) sr⟩
        · rw [List.length_cons]; omega
      by_cases h3 : x.1 = 402 ∨ x.1 = 403
      · rw [if_pos h3] at ht
        rw [if_pos (by omega)]
        split at ht
        · rename_i h
          subst h
          exact one (by omega) hb
        · cases ht
      rw [if_neg h3] at ht
      by_cases h4 : x.1 = 405
      · rw [if_pos h4] at ht
        rw [if_pos (by omega)]
        split at ht
        · rename_i h
          subst h
          have hb : 0 ≤ vb ∧ vb ≤ 1 := hb
          exact one (by omega) (by omega)
        · cases ht
      rw [if_neg h4] at ht
      rw [if_neg (by omega)]
      cases r with
      | nil => cases ht
      | cons a r =>
        cases vr with
        | nil => exact hr.elim
        | cons va vr =>
          obtain ⟨ha, hr⟩ := hr
          obtain ⟨sa, sr⟩ := sr
          rw [List.length_cons] at hn hl
          dsimp only at ht ⊢
          have two : (x.1 = 43 ∨ x.1 = 45 ∨ x.1 = 42 ∨ x.1 = 47 ∨ x.1 = 60 ∨ x.1 = 62 ∨ x.1 = 61 ∨ x.1 = 35 ∨ x.1 = 300 ∨ x.1 = 301 ∨ x.1 = 406 ∨ x.1 = 407) → (-1000000 ≤ va ∧ va ≤ 1000000) → (-1000000 ≤ vb ∧ vb ≤ 1000000) → ∃ j v, lx_qX d n i M = lx_qX d ((lx_2 x.1 va vb :: vr).length : Int) (i + 1) (am_wr M 471 j v) ∧ lx_P (am_wr M 471 j v) ((lx_2 x.1 va vb :: vr).length : Int) (lx_2 x.1 va vb :: vr) ∧ (lx_2 x.1 va vb :: vr).length < 62 := by
            intro ho hva hvb
            refine ⟨n - 1 - 1, lx_2 x.1 va vb, ?_, ?_, ?_⟩
            · rw [m_195two hK i0 i1 (by omega) (by omega) ho hc.1 sb sa hva hvb, List.length_cons]
              congr 1
              omega
            · rw [List.length_cons]
              refine ⟨?_, ?_⟩
              · rw [show ((vr.length + 1 : Nat) : Int) - 1 = n - 1 - 1 by omega]
                exact ax_ws
              · rw [show ((vr.length + 1 : Nat) : Int) - 1 = n - 1 - 1 by omega]
                exact lx_P_wr _ _ _ (by omega) sr
            · rw [List.length_cons]; omega
          by_cases h5 : x.1 = 406 ∨ x.1 = 407
          · rw [if_pos h5] at ht
            split at ht
            · rename_i h
              obtain ⟨rfl, rfl⟩ := h
              have ha : 0 ≤ va ∧ va ≤ 1 := ha
              have hb : 0 ≤ vb ∧ vb ≤ 1 := hb
              exact two (by omega) (by omega) (by omega)
            · cases ht
          rw [if_neg h5] at ht
          by_cases h6 : x.1 = 43 ∨ x.1 = 45 ∨ x.1 = 42 ∨ x.1 = 47
          · rw [if_pos h6] at ht
            split at ht
            · rename_i h
              obtain ⟨rfl, rfl⟩ := h
              exact two (by omega) ha hb
            · cases ht
          rw [if_neg h6] at ht
          split at ht
          · rename_i h7
            split at ht
            · rename_i h
              obtain ⟨rfl, rfl⟩ := h
              exact two (by omega) ha hb
            · cases ht
          · cases ht
theorem m_195e (hK : ax_K M) (i0 : 0 ≤ i) (i1 : i < 1600) (ho : am_rd M 457 i = 408) : lx_qX d n i M = some (am_rd M 471 0, M) := by
  unfold lx_qX
  rw [aq_195_5]
  simp (disch := first | assumption | omega) only [ax_gt, ax_gi, Option.bind_some, ax_gbl, ax_gb2, ax_gd, Int.reduceEq, Int.reduceNe, Int.reduceLT, Int.reduceLE, Int.reduceAdd, Int.reduceSub, Int.reduceMul, Int.reduceNeg, reduceIte, ite_true, ite_false, true_and, and_true, false_and, and_false, true_or, or_true, false_or, or_false, not_true_eq_false, not_false_eq_true, and_self, or_self, eq_self, ite_self, decide_true, decide_false, Bool.true_and, Bool.and_true, Bool.and_self, Bool.false_and, Int.sub_zero, Int.add_zero, Int.zero_add, ax_rw, if_pos, if_neg, ax_o_447, ax_a_457, kr_447_12, ax_a_471, kr_447_40, ho]
end
/-- the model's rows hold the code c from p on -/
def MC (M : am_M) (p : Int) (c : List (Int × Int)) : Prop := 0 ≤ p ∧ p + (c.length : Int) < 1600 ∧ (∀ (j : Nat) (hj : j < c.length), am_rd M 457 (p + j) = c[j].1 ∧ (c[j].1 = 400 ∨ c[j].1 = 401 → am_rd M 458 (p + j) = c[j].2)) ∧ am_rd M 457 (p + c.length) = 408
theorem m_195g {k : Int} {N : Int → Int} (hN : lx_N N) : ∀ (c : List (Int × Int)) (ts ts' : List Bool) (vs : List Int) (i n : Int) (M : am_M), ax_K M → (∀ j, lx_may k j = true → am_rd M 470 j = N j) → lx_T k ts c = some ts' → ts'.length = 1 → lx_V ts vs → n = (vs.length : Int) → vs.length < 62 → lx_P M n vs → MC M i c → ax_ok (lx_qX d n i M) (fun r M' => r = (lx_E N vs c).headD 0 ∧ ∀ c i, c ≠ 471 → am_rd M' c i = am_rd M c i) := by
  intro c
  induction c with
  | nil =>
    intro ts ts' vs i n M hK hNm hT h1 hV hn hl hS hc
    obtain ⟨i0, i1, -, i2⟩ := hc
    have i2 : am_rd M 457 i = 408 := by simpa using i2
    have i1 : i < 1600 := by simpa using i1
    rw [m_195e hK i0 i1 i2]
    refine ax_ok_some ⟨?_, fun _ _ _ => rfl⟩
    cases hT
    have h2 := lx_V_len hV
    show _ = vs.headD 0
    cases vs with
    | nil => rw [h1] at h2; cases h2
    | cons b r =>
      have h3 : r.length = 0 := by rw [List.length_cons] at h2; omega
      rw [List.length_cons, h3] at hn
      have := hS.1
      rw [hn] at this
      exact this
  | cons x c ih =>
    intro ts ts' vs i n M hK hNm hT h1 hV hn hl hS hc
    obtain ⟨t1, h2, h3⟩ := Option.bind_eq_some_iff.mp hT
    obtain ⟨i0, i1, i2, i3⟩ := hc
    rw [List.length_cons] at i1 i3
    have hx : am_rd M 457 i = x.1 ∧ (x.1 = 400 ∨ x.1 = 401 → am_rd M 458 i = x.2) := by
      have := i2 0 (Nat.succ_pos _)
      simpa using this
    obtain ⟨j, v, e1, e2, e3⟩ := m_195s (d := d) (N := N) hK i0 (by omega) hNm hn hl hV hS hx h2
    rw [e1]
    refine ax_ok_mono (ih t1 ts' (lx_s N vs x) (i + 1) _ (am_wr M 471 j v) (ax_Kw hK rfl) (fun q hq => (ax_wc (by omega)).trans (hNm q hq)) h3 h1 (lx_step hN hV h2) rfl e3 e2 ⟨by omega, by omega, ?_, ?_⟩) ?_
    · intro q hq
      have := i2 (q + 1) (by rw [List.length_cons]; omega)
      rw [ax_wc (by omega), ax_wc (by omega), show i + 1 + (q : Int) = i + ((q + 1 : Nat) : Int) by omega]
      exact this
    · rw [ax_wc (by omega), show i + 1 + (c.length : Int) = i + ((c.length + 1 : Nat) : Int) by omega]
      exact i3
    · intro r m' hr
      exact ⟨hr.1, fun c i hc => (hr.2 c i hc).trans (ax_wc hc)⟩
theorem m_195 {k p : Int} {N : Int → Int} {c : List (Int × Int)} (hK : ax_K M) (hN : lx_N N) (hc : lx_ok k c) (hNm : ∀ j, lx_may k j = true → am_rd M 470 j = N j) (hM : MC M p c) : ax_ok (am_Call d 195 [(2, 447), (0, p)] M) (fun r M' => r = (lx_E N [] c).headD 0 ∧ ∀ c i, c ≠ 471 → am_rd M' c i = am_rd M c i) := by
  rw [aq_195]
  exact m_195g hN c [] _ [] p 0 M hK hNm hc rfl trivial rfl (by decide) trivial hM
end
