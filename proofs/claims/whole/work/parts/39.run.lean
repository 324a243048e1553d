/-! THE LAWS: the developers' run of a code -/
def lx_enc (x : Int × Int) : Int := if x.1 = 400 then x.2 else if x.1 = 401 then -(12 + x.2) else if x.1 = 402 then -45 else if x.1 = 403 then -24 else if x.1 = 405 then -23 else -(lx_tk x.1)
def lx_S (M : am_M) : Int → List Int → Prop
  | _, [] => True
  | n, b :: r => am_rd M 41 (n - 1) = b ∧ lx_S M (n - 1) r
theorem lx_S_wr {M : am_M} {v : Int} : ∀ (r : List Int) (n i : Int), n ≤ i → lx_S M n r → lx_S (am_wr M 41 i v) n r := by
  intro r
  induction r with
  | nil => intro n i _ _; trivial
  | cons b r ih =>
    intro n i h hs
    exact ⟨(ax_wi (by omega)).trans hs.1, ih (n - 1) i (by omega) hs.2⟩
section
variable {M : am_M} {d : Nat} {s n i to : Int} {N : Int → Int}
noncomputable def lx_rX (d : Nat) (s n i to : Int) (M : am_M) : Option (Int × am_M) := am_Ex d 123 5 [(2, 39), (2, s), am_N, (0, to), (0, n), (0, i), am_N, am_N, am_N, am_N, am_N, am_N, am_N] [] M
theorem c_123num (hK : ax_K M) (hs : s = 15 ∨ s = 21 ∨ s = 27 ∨ s = 33) (i0 : 0 ≤ i) (i1 : i < to) (i2 : to ≤ 300) (n0 : 0 ≤ n) (n1 : n < 60) {v : Int} (hv : 0 ≤ v ∧ v ≤ 9999) (hc : am_rd M (s + 1) i = v) : lx_rX d s n i to M = lx_rX d s (n + 1) (i + 1) to (am_wr M 41 n v) := by
  unfold lx_rX
  rw [aq_123_5]
  rcases hs with rfl | rfl | rfl | rfl
  all_goals
    simp (disch := first | assumption | omega) only [Int.reduceEq, Int.reduceNe, Int.reduceLT, Int.reduceLE, Int.reduceAdd, Int.reduceSub, Int.reduceMul, Int.reduceNeg, reduceIte, ite_true, ite_false, true_and, and_true, false_and, and_false, true_or, or_true, false_or, or_false, not_true_eq_false, not_false_eq_true, and_self, or_self, eq_self, ite_self, decide_true, decide_false, Bool.true_and, Bool.and_true, Bool.and_self, Bool.false_and, Int.sub_zero, Int.add_zero, Int.zero_add] at hc
    simp (disch := first | assumption | omega) only [ax_gt, ax_gi, am_let, Option.bind_some, ax_gbl, ax_gb2, ax_gd, Int.reduceEq, Int.reduceNe, Int.reduceLT, Int.reduceLE, Int.reduceAdd, Int.reduceSub, Int.reduceMul, Int.reduceNeg, reduceIte, ite_true, ite_false, true_and, and_true, false_and, and_false, true_or, or_true, false_or, or_false, not_true_eq_false, not_false_eq_true, and_self, or_self, eq_self, ite_self, decide_true, decide_false, Bool.true_and, Bool.and_true, Bool.and_self, Bool.false_and, Int.sub_zero, Int.add_zero, Int.zero_add, ax_rw, if_pos, if_neg, ax_w32, ax_o_15, kr_15_0, kr_15_2, kr_15_3, kr_15_4, kr_15_5, ax_a_16, ax_a_17, ax_a_18, ax_a_19, ax_a_20, ax_o_21, kr_21_0, kr_21_2, kr_21_3, kr_21_4, kr_21_5, ax_a_22, ax_a_23, ax_a_24, ax_a_25, ax_a_26, ax_o_27, kr_27_0, kr_27_2, kr_27_3, kr_27_4, kr_27_5, ax_a_28, ax_a_29, ax_a_30, ax_a_31, ax_a_32, ax_o_33, kr_33_0, kr_33_2, kr_33_3, kr_33_4, kr_33_5, ax_a_34, ax_a_35, ax_a_36, ax_a_37, ax_a_38, ax_o_39, kr_39_0, kr_39_1, kr_39_2, kr_39_3, ax_a_40, ax_a_41, hc]
    rw [aq_123_24]
    try simp (disch := first | assumption | omega) only [ax_gt, ax_gi, am_let, Option.bind_some, ax_gbl, ax_gb2, ax_gd, Int.reduceEq, Int.reduceNe, Int.reduceLT, Int.reduceLE, Int.reduceAdd, Int.reduceSub, Int.reduceMul, Int.reduceNeg, reduceIte, ite_true, ite_false, true_and, and_true, false_and, and_false, true_or, or_true, false_or, or_false, not_true_eq_false, not_false_eq_true, and_self, or_self, eq_self, ite_self, decide_true, decide_false, Bool.true_and, Bool.and_true, Bool.and_self, Bool.false_and, Int.sub_zero, Int.add_zero, Int.zero_add, ax_rw, if_pos, if_neg, ax_w32, ax_o_15, kr_15_0, kr_15_2, kr_15_3, kr_15_4, kr_15_5, ax_a_16, ax_a_17, ax_a_18, ax_a_19, ax_a_20, ax_o_21, kr_21_0, kr_21_2, kr_21_3, kr_21_4, kr_21_5, ax_a_22, ax_a_23, ax_a_24, ax_a_25, ax_a_26, ax_o_27, kr_27_0, kr_27_2, kr_27_3, kr_27_4, kr_27_5, ax_a_28, ax_a_29, ax_a_30, ax_a_31, ax_a_32, ax_o_33, kr_33_0, kr_33_2, kr_33_3, kr_33_4, kr_33_5, ax_a_34, ax_a_35, ax_a_36, ax_a_37, ax_a_38, ax_o_39, kr_39_0, kr_39_1, kr_39_2, kr_39_3, ax_a_40, ax_a_41, hc]
    rw [aq_123_35]
    try simp (disch := first | assumption | omega) only [ax_gt, ax_gi, am_let, Option.bind_some, ax_gbl, ax_gb2, ax_gd, Int.reduceEq, Int.reduceNe, Int.reduceLT, Int.reduceLE, Int.reduceAdd, Int.reduceSub, Int.reduceMul, Int.reduceNeg, reduceIte, ite_true, ite_false, true_and, and_true, false_and, and_false, true_or, or_true, false_or, or_false, not_true_eq_false, not_false_eq_true, and_self, or_self, eq_self, ite_self, decide_true, decide_false, Bool.true_and, Bool.and_true, Bool.and_self, Bool.false_and, Int.sub_zero, Int.add_zero, Int.zero_add, ax_rw, if_pos, if_neg, ax_w32, ax_o_15, kr_15_0, kr_15_2, kr_15_3, kr_15_4, kr_15_5, ax_a_16, ax_a_17, ax_a_18, ax_a_19, ax_a_20, ax_o_21, kr_21_0, kr_21_2, kr_21_3, kr_21_4, kr_21_5, ax_a_22, ax_a_23, ax_a_24, ax_a_25, ax_a_26, ax_o_27, kr_27_0, kr_27_2, kr_27_3, kr_27_4, kr_27_5, ax_a_28, ax_a_29, ax_a_30, ax_a_31, ax_a_32, ax_o_33, kr_33_0, kr_33_2, kr_33_3, kr_33_4, kr_33_5, ax_a_34, ax_a_35, ax_a_36, ax_a_37, ax_a_38, ax_o_39, kr_39_0, kr_39_1, kr_39_2, kr_39_3, ax_a_40, ax_a_41, hc]
    rw [aq_123_39]
    try simp (disch := first | assumption | omega) only [ax_gt, ax_gi, am_let, Option.bind_some, ax_gbl, ax_gb2, ax_gd, Int.reduceEq, Int.reduceNe, Int.reduceLT, Int.reduceLE, Int.reduceAdd, Int.reduceSub, Int.reduceMul, Int.reduceNeg, reduceIte, ite_true, ite_false, true_and, and_true, false_and, and_false, true_or, or_true, false_or, or_false, not_true_eq_false, not_false_eq_true, and_self, or_self, eq_self, ite_self, decide_true, decide_false, Bool.true_and, Bool.and_true, Bool.and_self, Bool.false_and, Int.sub_zero, Int.add_zero, Int.zero_add, ax_rw, if_pos, if_neg, ax_w32, ax_o_15, kr_15_0, kr_15_2, kr_15_3, kr_15_4, kr_15_5, ax_a_16, ax_a_17, ax_a_18, ax_a_19, ax_a_20, ax_o_21, kr_21_0, kr_21_2, kr_21_3, kr_21_4, kr_21_5, ax_a_22, ax_a_23, ax_a_24, ax_a_25, ax_a_26, ax_o_27, kr_27_0, kr_27_2, kr_27_3, kr_27_4, kr_27_5, ax_a_28, ax_a_29, ax_a_30, ax_a_31, ax_a_32, ax_o_33, kr_33_0, kr_33_2, kr_33_3, kr_33_4, kr_33_5, ax_a_34, ax_a_35, ax_a_36, ax_a_37, ax_a_38, ax_o_39, kr_39_0, kr_39_1, kr_39_2, kr_39_3, ax_a_40, ax_a_41, hc]
    rw [aq_123_53]
    try simp (disch := first | assumption | omega) only [ax_gt, ax_gi, am_let, Option.bind_some, ax_gbl, ax_gb2, ax_gd, Int.reduceEq, Int.reduceNe, Int.reduceLT, Int.reduceLE, Int.reduceAdd, Int.reduceSub, Int.reduceMul, Int.reduceNeg, reduceIte, ite_true, ite_false, true_and, and_true, false_and, and_false, true_or, or_true, false_or, or_false, not_true_eq_false, not_false_eq_true, and_self, or_self, eq_self, ite_self, decide_true, decide_false, Bool.true_and, Bool.and_true, Bool.and_self, Bool.false_and, Int.sub_zero, Int.add_zero, Int.zero_add, ax_rw, if_pos, if_neg, ax_w32, ax_o_15, kr_15_0, kr_15_2, kr_15_3, kr_15_4, kr_15_5, ax_a_16, ax_a_17, ax_a_18, ax_a_19, ax_a_20, ax_o_21, kr_21_0, kr_21_2, kr_21_3, kr_21_4, kr_21_5, ax_a_22, ax_a_23, ax_a_24, ax_a_25, ax_a_26, ax_o_27, kr_27_0, kr_27_2, kr_27_3, kr_27_4, kr_27_5, ax_a_28, ax_a_29, ax_a_30, ax_a_31, ax_a_32, ax_o_33, kr_33_0, kr_33_2, kr_33_3, kr_33_4, kr_33_5, ax_a_34, ax_a_35, ax_a_36, ax_a_37, ax_a_38, ax_o_39, kr_39_0, kr_39_1, kr_39_2, kr_39_3, ax_a_40, ax_a_41, hc]
    rw [aq_123_63]
    try simp (disch := first | assumption | omega) only [ax_gt, ax_gi, am_let, Option.bind_some, ax_gbl, ax_gb2, ax_gd, Int.reduceEq, Int.reduceNe, Int.reduceLT, Int.reduceLE, Int.reduceAdd, Int.reduceSub, Int.reduceMul, Int.reduceNeg, reduceIte, ite_true, ite_false, true_and, and_true, false_and, and_false, true_or, or_true, false_or, or_false, not_true_eq_false, not_false_eq_true, and_self, or_self, eq_self, ite_self, decide_true, decide_false, Bool.true_and, Bool.and_true, Bool.and_self, Bool.false_and, Int.sub_zero, Int.add_zero, Int.zero_add, ax_rw, if_pos, if_neg, ax_w32, ax_o_15, kr_15_0, kr_15_2, kr_15_3, kr_15_4, kr_15_5, ax_a_16, ax_a_17, ax_a_18, ax_a_19, ax_a_20, ax_o_21, kr_21_0, kr_21_2, kr_21_3, kr_21_4, kr_21_5, ax_a_22, ax_a_23, ax_a_24, ax_a_25, ax_a_26, ax_o_27, kr_27_0, kr_27_2, kr_27_3, kr_27_4, kr_27_5, ax_a_28, ax_a_29, ax_a_30, ax_a_31, ax_a_32, ax_o_33, kr_33_0, kr_33_2, kr_33_3, kr_33_4, kr_33_5, ax_a_34, ax_a_35, ax_a_36, ax_a_37, ax_a_38, ax_o_39, kr_39_0, kr_39_1, kr_39_2, kr_39_3, ax_a_40, ax_a_41, hc]
    rw [aq_123_85]
    try simp (disch := first | assumption | omega) only [ax_gt, ax_gi, am_let, Option.bind_some, ax_gbl, ax_gb2, ax_gd, Int.reduceEq, Int.reduceNe, Int.reduceLT, Int.reduceLE, Int.reduceAdd, Int.reduceSub, Int.reduceMul, Int.reduceNeg, reduceIte, ite_true, ite_false, true_and, and_true, false_and, and_false, true_or, or_true, false_or, or_false, not_true_eq_false, not_false_eq_true, and_self, or_self, eq_self, ite_self, decide_true, decide_false, Bool.true_and, Bool.and_true, Bool.and_self, Bool.false_and, Int.sub_zero, Int.add_zero, Int.zero_add, ax_rw, if_pos, if_neg, ax_w32, ax_o_15, kr_15_0, kr_15_2, kr_15_3, kr_15_4, kr_15_5, ax_a_16, ax_a_17, ax_a_18, ax_a_19, ax_a_20, ax_o_21, kr_21_0, kr_21_2, kr_21_3, kr_21_4, kr_21_5, ax_a_22, ax_a_23, ax_a_24, ax_a_25, ax_a_26, ax_o_27, kr_27_0, kr_27_2, kr_27_3, kr_27_4, kr_27_5, ax_a_28, ax_a_29, ax_a_30, ax_a_31, ax_a_32, ax_o_33, kr_33_0, kr_33_2, kr_33_3, kr_33_4, kr_33_5, ax_a_34, ax_a_35, ax_a_36, ax_a_37, ax_a_38, ax_o_39, kr_39_0, kr_39_1, kr_39_2, kr_39_3, ax_a_40, ax_a_41, hc]
    rw [aq_123_97]
    try simp (disch := first | assumption | omega) only [ax_gt, ax_gi, am_let, Option.bind_some, ax_gbl, ax_gb2, ax_gd, Int.reduceEq, Int.reduceNe, Int.reduceLT, Int.reduceLE, Int.reduceAdd, Int.reduceSub, Int.reduceMul, Int.reduceNeg, reduceIte, ite_true, ite_false, true_and, and_true, false_and, and_false, true_or, or_true, false_or, or_false, not_true_eq_false, not_false_eq_true, and_self, or_self, eq_self, ite_self, decide_true, decide_false, Bool.true_and, Bool.and_true, Bool.and_self, Bool.false_and, Int.sub_zero, Int.add_zero, Int.zero_add, ax_rw, if_pos, if_neg, ax_w32, ax_o_15, kr_15_0, kr_15_2, kr_15_3, kr_15_4, kr_15_5, ax_a_16, ax_a_17, ax_a_18, ax_a_19, ax_a_20, ax_o_21, kr_21_0, kr_21_2, kr_21_3, kr_21_4, kr_21_5, ax_a_22, ax_a_23, ax_a_24, ax_a_25, ax_a_26, ax_o_27, kr_27_0, kr_27_2, kr_27_3, kr_27_4, kr_27_5, ax_a_28, ax_a_29, ax_a_30, ax_a_31, ax_a_32, ax_o_33, kr_33_0, kr_33_2, kr_33_3, kr_33_4, kr_33_5, ax_a_34, ax_a_35, ax_a_36, ax_a_37, ax_a_38, ax_o_39, kr_39_0, kr_39_1, kr_39_2, kr_39_3, ax_a_40, ax_a_41, hc]
    rw [aq_123_117]
    try simp (disch := first | assumption | omega) only [ax_gt, ax_gi, am_let, Option.bind_some, ax_gbl, ax_gb2, ax_gd, Int.reduceEq, Int.reduceNe, Int.reduceLT, Int.reduceLE, Int.reduceAdd, Int.reduceSub, Int.reduceMul, Int.reduceNeg, reduceIte, ite_true, ite_false, true_and, and_true, false_and, and_false, true_or, or_true, false_or, or_false, not_true_eq_false, not_false_eq_true, and_self, or_self, eq_self, ite_self, decide_true, decide_false, Bool.true_and, Bool.and_true, Bool.and_self, Bool.false_and, Int.sub_zero, Int.add_zero, Int.zero_add, ax_rw, if_pos, if_neg, ax_w32, ax_o_15, kr_15_0, kr_15_2, kr_15_3, kr_15_4, kr_15_5, ax_a_16, ax_a_17, ax_a_18, ax_a_19, ax_a_20, ax_o_21, kr_21_0, kr_21_2, kr_21_3, kr_21_4, kr_21_5, ax_a_22, ax_a_23, ax_a_24, ax_a_25, ax_a_26, ax_o_27, kr_27_0, kr_27_2, kr_27_3, kr_27_4, kr_27_5, ax_a_28, ax_a_29, ax_a_30, ax_a_31, ax_a_32, ax_o_33, kr_33_0, kr_33_2, kr_33_3, kr_33_4, kr_33_5, ax_a_34, ax_a_35, ax_a_36, ax_a_37, ax_a_38, ax_o_39, kr_39_0, kr_39_1, kr_39_2, kr_39_3, ax_a_40, ax_a_41, hc]
    rw [aq_123_134]
    try simp (disch := first | assumption | omega) only [ax_gt, ax_gi, am_let, Option.bind_some, ax_gbl, ax_gb2, ax_gd, Int.reduceEq, Int.reduceNe, Int.reduceLT, Int.reduceLE, Int.reduceAdd, Int.reduceSub, Int.reduceMul, Int.reduceNeg, reduceIte, ite_true, ite_false, true_and, and_true, false_and, and_false, true_or, or_true, false_or, or_false, not_true_eq_false, not_false_eq_true, and_self, or_self, eq_self, ite_self, decide_true, decide_false, Bool.true_and, Bool.and_true, Bool.and_self, Bool.false_and, Int.sub_zero, Int.add_zero, Int.zero_add, ax_rw, if_pos, if_neg, ax_w32, ax_o_15, kr_15_0, kr_15_2, kr_15_3, kr_15_4, kr_15_5, ax_a_16, ax_a_17, ax_a_18, ax_a_19, ax_a_20, ax_o_21, kr_21_0, kr_21_2, kr_21_3, kr_21_4, kr_21_5, ax_a_22, ax_a_23, ax_a_24, ax_a_25, ax_a_26, ax_o_27, kr_27_0, kr_27_2, kr_27_3, kr_27_4, kr_27_5, ax_a_28, ax_a_29, ax_a_30, ax_a_31, ax_a_32, ax_o_33, kr_33_0, kr_33_2, kr_33_3, kr_33_4, kr_33_5, ax_a_34, ax_a_35, ax_a_36, ax_a_37, ax_a_38, ax_o_39, kr_39_0, kr_39_1, kr_39_2, kr_39_3, ax_a_40, ax_a_41, hc]
theorem c_123name (hK : ax_K M) (hs : s = 15 ∨ s = 21 ∨ s = 27 ∨ s = 33) (i0 : 0 ≤ i) (i1 : i < to) (i2 : to ≤ 300) (n0 : 0 ≤ n) (n1 : n < 60) {v : Int} (hv : 0 ≤ v ∧ v ≤ 8) (hc : am_rd M (s + 1) i = -(12 + v)) : lx_rX d s n i to M = lx_rX d s (n + 1) (i + 1) to (am_wr M 41 n (am_rd M 40 v)) := by
  unfold lx_rX
  rw [aq_123_5]
  have e1 : -(-(12 + v)) = 12 + v := by omega
  have e2 : 12 + v - 12 = v := by omega
  rcases hs with rfl | rfl | rfl | rfl
  all_goals
    simp (disch := first | assumption | omega) only [Int.reduceEq, Int.reduceNe, Int.reduceLT, Int.reduceLE, Int.reduceAdd, Int.reduceSub, Int.reduceMul, Int.reduceNeg, reduceIte, ite_true, ite_false, true_and, and_true, false_and, and_false, true_or, or_true, false_or, or_false, not_true_eq_false, not_false_eq_true, and_self, or_self, eq_self, ite_self, decide_true, decide_false, Bool.true_and, Bool.and_true, Bool.and_self, Bool.false_and, Int.sub_zero, Int.add_zero, Int.zero_add] at hc
    simp (disch := first | assumption | omega) only [ax_gt, ax_gi, am_let, Option.bind_some, ax_gbl, ax_gb2, ax_gd, Int.reduceEq, Int.reduceNe, Int.reduceLT, Int.reduceLE, Int.reduceAdd, Int.reduceSub, Int.reduceMul, Int.reduceNeg, reduceIte, ite_true, ite_false, true_and, and_true, false_and, and_false, true_or, or_true, false_or, or_false, not_true_eq_false, not_false_eq_true, and_self, or_self, eq_self, ite_self, decide_true, decide_false, Bool.true_and, Bool.and_true, Bool.and_self, Bool.false_and, Int.sub_zero, Int.add_zero, Int.zero_add, ax_rw, if_pos, if_neg, ax_w32, ax_o_15, kr_15_0, kr_15_2, kr_15_3, kr_15_4, kr_15_5, ax_a_16, ax_a_17, ax_a_18, ax_a_19, ax_a_20, ax_o_21, kr_21_0, kr_21_2, kr_21_3, kr_21_4, kr_21_5, ax_a_22, ax_a_23, ax_a_24, ax_a_25, ax_a_26, ax_o_27, kr_27_0, kr_27_2, kr_27_3, kr_27_4, kr_27_5, ax_a_28, ax_a_29, ax_a_30, ax_a_31, ax_a_32, ax_o_33, kr_33_0, kr_33_2, kr_33_3, kr_33_4, kr_33_5, ax_a_34, ax_a_35, ax_a_36, ax_a_37, ax_a_38, ax_o_39, kr_39_0, kr_39_1, kr_39_2, kr_39_3, ax_a_40, ax_a_41, hc, e1, e2]
    rw [aq_123_24]
    try simp (disch := first | assumption | omega) only [ax_gt, ax_gi, am_let, Option.bind_some, ax_gbl, ax_gb2, ax_gd, Int.reduceEq, Int.reduceNe, Int.reduceLT, Int.reduceLE, Int.reduceAdd, Int.reduceSub, Int.reduceMul, Int.reduceNeg, reduceIte, ite_true, ite_false, true_and, and_true, false_and, and_false, true_or, or_true, false_or, or_false, not_true_eq_false, not_false_eq_true, and_self, or_self, eq_self, ite_self, decide_true, decide_false, Bool.true_and, Bool.and_true, Bool.and_self, Bool.false_and, Int.sub_zero, Int.add_zero, Int.zero_add, ax_rw, if_pos, if_neg, ax_w32, ax_o_15, kr_15_0, kr_15_2, kr_15_3, kr_15_4, kr_15_5, ax_a_16, ax_a_17, ax_a_18, ax_a_19, ax_a_20, ax_o_21, kr_21_0, kr_21_2, kr_21_3, kr_21_4, kr_21_5, ax_a_22, ax_a_23, ax_a_24, ax_a_25, ax_a_26, ax_o_27, kr_27_0, kr_27_2, kr_27_3, kr_27_4, kr_27_5, ax_a_28, ax_a_29, ax_a_30, ax_a_31, ax_a_32, ax_o_33, kr_33_0, kr_33_2, kr_33_3, kr_33_4, kr_33_5, ax_a_34, ax_a_35, ax_a_36, ax_a_37, ax_a_38, ax_o_39, kr_39_0, kr_39_1, kr_39_2, kr_39_3, ax_a_40, ax_a_41, hc, e1, e2]
    rw [aq_123_35]
    try simp (disch := first | assumption | omega) only [ax_gt, ax_gi, am_let, Option.bind_some, ax_gbl, ax_gb2, ax_gd, Int.reduceEq, Int.reduceNe, Int.reduceLT, Int.reduceLE, Int.reduceAdd, Int.reduceSub, Int.reduceMul, Int.reduceNeg, reduceIte, ite_true, ite_false, true_and, and_true, false_and, and_false, true_or, or_true, false_or, or_false, not_true_eq_false, not_false_eq_true, and_self, or_self, eq_self, ite_self, decide_true, decide_false, Bool.true_and, Bool.and_true, Bool.and_self, Bool.false_and, Int.sub_zero, Int.add_zero, Int.zero_add, ax_rw, if_pos, if_neg, ax_w32, ax_o_15, kr_15_0, kr_15_2, kr_15_3, kr_15_4, kr_15_5, ax_a_16, ax_a_17, ax_a_18, ax_a_19, ax_a_20, ax_o_21, kr_21_0, kr_21_2, kr_21_3, kr_21_4, kr_21_5, ax_a_22, ax_a_23, ax_a_24, ax_a_25, ax_a_26, ax_o_27, kr_27_0, kr_27_2, kr_27_3, kr_27_4, kr_27_5, ax_a_28, ax_a_29, ax_a_30, ax_a_31, ax_a_32, ax_o_33, kr_33_0, kr_33_2, kr_33_3, kr_33_4, kr_33_5, ax_a_34, ax_a_35, ax_a_36, ax_a_37, ax_a_38, ax_o_39, kr_39_0, kr_39_1, kr_39_2, kr_39_3, ax_a_40, ax_a_41, hc, e1, e2]
    rw [aq_123_39]
    try simp (disch := first | assumption | omega) only [ax_gt, ax_gi, am_let, Option.bind_some, ax_gbl, ax_gb2, ax_gd, Int.reduceEq, Int.reduceNe, Int.reduceLT, Int.reduceLE, Int.reduceAdd, Int.reduceSub, Int.reduceMul, Int.reduceNeg, reduceIte, ite_true, ite_false, true_and, and_true, false_and, and_false, true_or, or_true, false_or, or_false, not_true_eq_false, not_false_eq_true, and_self, or_self, eq_self, ite_self, decide_true, decide_false, Bool.true_and, Bool.and_true, Bool.and_self, Bool.false_and, Int.sub_zero, Int.add_zero, Int.zero_add, ax_rw, if_pos, if_neg, ax_w32, ax_o_15, kr_15_0, kr_15_2, kr_15_3, kr_15_4, kr_15_5, ax_a_16, ax_a_17, ax_a_18, ax_a_19, ax_a_20, ax_o_21, kr_21_0, kr_21_2, kr_21_3, kr_21_4, kr_21_5, ax_a_22, ax_a_23, ax_a_24, ax_a_25, ax_a_26, ax_o_27, kr_27_0, kr_27_2, kr_27_3, kr_27_4, kr_27_5, ax_a_28, ax_a_29, ax_a_30, ax_a_31, ax_a_32, ax_o_33, kr_33_0, kr_33_2, kr_33_3, kr_33_4, kr_33_5, ax_a_34, ax_a_35, ax_a_36, ax_a_37, ax_a_38, ax_o_39, kr_39_0, kr_39_1, kr_39_2, kr_39_3, ax_a_40, ax_a_41, hc, e1, e2]
    rw [aq_123_53]
    try simp (disch := first | assumption | omega) only [ax_gt, ax_gi, am_let, Option.bind_some, ax_gbl, ax_gb2, ax_gd, Int.reduceEq, Int.reduceNe, Int.reduceLT, Int.reduceLE, Int.reduceAdd, Int.reduceSub, Int.reduceMul, Int.reduceNeg, reduceIte, ite_true, ite_false, true_and, and_true, false_and, and_false, true_or, or_true, false_or, or_false, not_true_eq_false, not_false_eq_true, and_self, or_self, eq_self, ite_self, decide_true, decide_false, Bool.true_and, Bool.and_true, Bool.and_self, Bool.false_and, Int.sub_zero, Int.add_zero, Int.zero_add, ax_rw, if_pos, if_neg, ax_w32, ax_o_15, kr_15_0, kr_15_2, kr_15_3, kr_15_4, kr_15_5, ax_a_16, ax_a_17, ax_a_18, ax_a_19, ax_a_20, ax_o_21, kr_21_0, kr_21_2, kr_21_3, kr_21_4, kr_21_5, ax_a_22, ax_a_23, ax_a_24, ax_a_25, ax_a_26, ax_o_27, kr_27_0, kr_27_2, kr_27_3, kr_27_4, kr_27_5, ax_a_28, ax_a_29, ax_a_30, ax_a_31, ax_a_32, ax_o_33, kr_33_0, kr_33_2, kr_33_3, kr_33_4, kr_33_5, ax_a_34, ax_a_35, ax_a_36, ax_a_37, ax_a_38, ax_o_39, kr_39_0, kr_39_1, kr_39_2, kr_39_3, ax_a_40, ax_a_41, hc, e1, e2]
    rw [aq_123_63]
    try simp (disch := first | assumption | omega) only [ax_gt, ax_gi, am_let, Option.bind_some, ax_gbl, ax_gb2, ax_gd, Int.reduceEq, Int.reduceNe, Int.reduceLT, Int.reduceLE, Int.reduceAdd, Int.reduceSub, Int.reduceMul, Int.reduceNeg, reduceIte, ite_true, ite_false, true_and, and_true, false_and, and_false, true_or, or_true, false_or, or_false, not_true_eq_false, not_false_eq_true, and_self, or_self, eq_self, ite_self, decide_true, decide_false, Bool.true_and, Bool.and_true, Bool.and_self, Bool.false_and, Int.sub_zero, Int.add_zero, Int.zero_add, ax_rw, if_pos, if_neg, ax_w32, ax_o_15, kr_15_0, kr_15_2, kr_15_3, kr_15_4, kr_15_5, ax_a_16, ax_a_17, ax_a_18, ax_a_19, ax_a_20, ax_o_21, kr_21_0, kr_21_2, kr_21_3, kr_21_4, kr_21_5, ax_a_22, ax_a_23, ax_a_24, ax_a_25, ax_a_26, ax_o_27, kr_27_0, kr_27_2, kr_27_3, kr_27_4, kr_27_5, ax_a_28, ax_a_29, ax_a_30, ax_a_31, ax_a_32, ax_o_33, kr_33_0, kr_33_2, kr_33_3, kr_33_4, kr_33_5, ax_a_34, ax_a_35, ax_a_36, ax_a_37, ax_a_38, ax_o_39, kr_39_0, kr_39_1, kr_39_2, kr_39_3, ax_a_40, ax_a_41, hc, e1, e2]
    rw [aq_123_85]
    try simp (disch := first | assumption | omega) only [ax_gt, ax_gi, am_let, Option.bind_some, ax_gbl, ax_gb2, ax_gd, Int.reduceEq, Int.reduceNe, Int.reduceLT, Int.reduceLE, Int.reduceAdd, Int.reduceSub, Int.reduceMul, Int.reduceNeg, reduceIte, ite_true, ite_false, true_and, and_true, false_and, and_false, true_or, or_true, false_or, or_false, not_true_eq_false, not_false_eq_true, and_self, or_self, eq_self, ite_self, decide_true, decide_false, Bool.true_and, Bool.and_true, Bool.and_self, Bool.false_and, Int.sub_zero, Int.add_zero, Int.zero_add, ax_rw, if_pos, if_neg, ax_w32, ax_o_15, kr_15_0, kr_15_2, kr_15_3, kr_15_4, kr_15_5, ax_a_16, ax_a_17, ax_a_18, ax_a_19, ax_a_20, ax_o_21, kr_21_0, kr_21_2, kr_21_3, kr_21_4, kr_21_5, ax_a_22, ax_a_23, ax_a_24, ax_a_25, ax_a_26, ax_o_27, kr_27_0, kr_27_2, kr_27_3, kr_27_4, kr_27_5, ax_a_28, ax_a_29, ax_a_30, ax_a_31, ax_a_32, ax_o_33, kr_33_0, kr_33_2, kr_33_3, kr_33_4, kr_33_5, ax_a_34, ax_a_35, ax_a_36, ax_a_37, ax_a_38, ax_o_39, kr_39_0, kr_39_1, kr_39_2, kr_39_3, ax_a_40, ax_a_41, hc, e1, e2]
    rw [aq_123_97]
    try simp (disch := first | assumption | omega) only [ax_gt, ax_gi, am_let, Option.bind_some, ax_gbl, ax_gb2, ax_gd, Int.reduceEq, Int.reduceNe, Int.reduceLT, Int.reduceLE, Int.reduceAdd, Int.reduceSub, Int.reduceMul, Int.reduceNeg, reduceIte, ite_true, ite_false, true_and, and_true, false_and, and_false, true_or, or_true, false_or, or_false, not_true_eq_false, not_false_eq_true, and_self, or_self, eq_self, ite_self, decide_true, decide_false, Bool.true_and, Bool.and_true, Bool.and_self, Bool.false_and, Int.sub_zero, Int.add_zero, Int.zero_add, ax_rw, if_pos, if_neg, ax_w32, ax_o_15, kr_15_0, kr_15_2, kr_15_3, kr_15_4, kr_15_5, ax_a_16, ax_a_17, ax_a_18, ax_a_19, ax_a_20, ax_o_21, kr_21_0, kr_21_2, kr_21_3, kr_21_4, kr_21_5, ax_a_22, ax_a_23, ax_a_24, ax_a_25, ax_a_26, ax_o_27, kr_27_0, kr_27_2, kr_27_3, kr_27_4, kr_27_5, ax_a_28, ax_a_29, ax_a_30, ax_a_31, ax_a_32, ax_o_33, kr_33_0, kr_33_2, kr_33_3, kr_33_4, kr_33_5, ax_a_34, ax_a_35, ax_a_36, ax_a_37, ax_a_38, ax_o_39, kr_39_0, kr_39_1, kr_39_2, kr_39_3, ax_a_40, ax_a_41, hc, e1, e2]
    rw [aq_123_117]
    try simp (disch := first | assumption | omega) only [ax_gt, ax_gi, am_let, Option.bind_some, ax_gbl, ax_gb2, ax_gd, Int.reduceEq, Int.reduceNe, Int.reduceLT, Int.reduceLE, Int.reduceAdd, Int.reduceSub, Int.reduceMul, Int.reduceNeg, reduceIte, ite_true, ite_false, true_and, and_true, false_and, and_false, true_or, or_true, false_or, or_false, not_true_eq_false, not_false_eq_true, and_self, or_self, eq_self, ite_self, decide_true, decide_false, Bool.true_and, Bool.and_true, Bool.and_self, Bool.false_and, Int.sub_zero, Int.add_zero, Int.zero_add, ax_rw, if_pos, if_neg, ax_w32, ax_o_15, kr_15_0, kr_15_2, kr_15_3, kr_15_4, kr_15_5, ax_a_16, ax_a_17, ax_a_18, ax_a_19, ax_a_20, ax_o_21, kr_21_0, kr_21_2, kr_21_3, kr_21_4, kr_21_5, ax_a_22, ax_a_23, ax_a_24, ax_a_25, ax_a_26, ax_o_27, kr_27_0, kr_27_2, kr_27_3, kr_27_4, kr_27_5, ax_a_28, ax_a_29, ax_a_30, ax_a_31, ax_a_32, ax_o_33, kr_33_0, kr_33_2, kr_33_3, kr_33_4, kr_33_5, ax_a_34, ax_a_35, ax_a_36, ax_a_37, ax_a_38, ax_o_39, kr_39_0, kr_39_1, kr_39_2, kr_39_3, ax_a_40, ax_a_41, hc, e1, e2]
    rw [aq_123_134]
    try simp (disch := first | assumption | omega) only [ax_gt, ax_gi, am_let, Option.bind_some, ax_gbl, ax_gb2, ax_gd, Int.reduceEq, Int.reduceNe, Int.reduceLT, Int.reduceLE, Int.reduceAdd, Int.reduceSub, Int.reduceMul, Int.reduceNeg, reduceIte, ite_true, ite_false, true_and, and_true, false_and, and_false, true_or, or_true, false_or, or_false, not_true_eq_false, not_false_eq_true, and_self, or_self, eq_self, ite_self, decide_true, decide_false, Bool.true_and, Bool.and_true, Bool.and_self, Bool.false_and, Int.sub_zero, Int.add_zero, Int.zero_add, ax_rw, if_pos, if_neg, ax_w32, ax_o_15, kr_15_0, kr_15_2, kr_15_3, kr_15_4, kr_15_5, ax_a_16, ax_a_17, ax_a_18, ax_a_19, ax_a_20, ax_o_21, kr_21_0, kr_21_2, kr_21_3, kr_21_4, kr_21_5, ax_a_22, ax_a_23, ax_a_24, ax_a_25, ax_a_26, ax_o_27, kr_27_0, kr_27_2, kr_27_3, kr_27_4, kr_27_5, ax_a_28, ax_a_29, ax_a_30, ax_a_31, ax_a_32, ax_o_33, kr_33_0, kr_33_2, kr_33_3, kr_33_4, kr_33_5, ax_a_34, ax_a_35, ax_a_36, ax_a_37, ax_a_38, ax_o_39, kr_39_0, kr_39_1, kr_39_2, kr_39_3, ax_a_40, ax_a_41, hc, e1, e2]
theorem c_123one (hK : ax_K M) (hs : s = 15 ∨ s = 21 ∨ s = 27 ∨ s = 33) (i0 : 0 ≤ i) (i1 : i < to) (i2 : to ≤ 300) (n0 : 1 ≤ n) (n1 : n < 64) {o b r : Int} (ho : o = 402 ∨ o = 403 ∨ o = 405) (hc : am_rd M (s + 1) i = -(if o = 402 then 45 else if o = 403 then 24 else 23)) (hb : am_rd M 41 (n - 1) = b) (hr : ∀ d, am_Call d 32 [(0, if o = 402 then 45 else if o = 403 then 24 else 23), (0, b)] M = some (r, M)) : lx_rX d s n i to M = lx_rX d s n (i + 1) to (am_wr M 41 (n - 1) r) := by
  unfold lx_rX
  rw [aq_123_5]
  have e1 : n - 1 + 1 = n := by omega
  rcases ho with rfl | rfl | rfl
  all_goals
    simp (disch := first | assumption | omega) only [Int.reduceEq, Int.reduceNe, Int.reduceLT, Int.reduceLE, Int.reduceAdd, Int.reduceSub, Int.reduceMul, Int.reduceNeg, reduceIte, ite_true, ite_false, true_and, and_true, false_and, and_false, true_or, or_true, false_or, or_false, not_true_eq_false, not_false_eq_true, and_self, or_self, eq_self, ite_self, decide_true, decide_false, Bool.true_and, Bool.and_true, Bool.and_self, Bool.false_and, Int.sub_zero, Int.add_zero, Int.zero_add] at hc hr
    rcases hs with rfl | rfl | rfl | rfl
    all_goals
      simp (disch := first | assumption | omega) only [Int.reduceEq, Int.reduceNe, Int.reduceLT, Int.reduceLE, Int.reduceAdd, Int.reduceSub, Int.reduceMul, Int.reduceNeg, reduceIte, ite_true, ite_false, true_and, and_true, false_and, and_false, true_or, or_true, false_or, or_false, not_true_eq_false, not_false_eq_true, and_self, or_self, eq_self, ite_self, decide_true, decide_false, Bool.true_and, Bool.and_true, Bool.and_self, Bool.false_and, Int.sub_zero, Int.add_zero, Int.zero_add] at hc
      simp (disch := first | assumption | omega) only [ax_gt, ax_gi, am_let, Option.bind_some, ax_gbl, ax_gb2, ax_gd, Int.reduceEq, Int.reduceNe, Int.reduceLT, Int.reduceLE, Int.reduceAdd, Int.reduceSub, Int.reduceMul, Int.reduceNeg, reduceIte, ite_true, ite_false, true_and, and_true, false_and, and_false, true_or, or_true, false_or, or_false, not_true_eq_false, not_false_eq_true, and_self, or_self, eq_self, ite_self, decide_true, decide_false, Bool.true_and, Bool.and_true, Bool.and_self, Bool.false_and, Int.sub_zero, Int.add_zero, Int.zero_add, ax_rw, if_pos, if_neg, ax_w32, ax_o_15, kr_15_0, kr_15_2, kr_15_3, kr_15_4, kr_15_5, ax_a_16, ax_a_17, ax_a_18, ax_a_19, ax_a_20, ax_o_21, kr_21_0, kr_21_2, kr_21_3, kr_21_4, kr_21_5, ax_a_22, ax_a_23, ax_a_24, ax_a_25, ax_a_26, ax_o_27, kr_27_0, kr_27_2, kr_27_3, kr_27_4, kr_27_5, ax_a_28, ax_a_29, ax_a_30, ax_a_31, ax_a_32, ax_o_33, kr_33_0, kr_33_2, kr_33_3, kr_33_4, kr_33_5, ax_a_34, ax_a_35, ax_a_36, ax_a_37, ax_a_38, ax_o_39, kr_39_0, kr_39_1, kr_39_2, kr_39_3, ax_a_40, ax_a_41, hc, hb, hr, e1]
      rw [aq_123_24]
      try simp (disch := first | assumption | omega) only [ax_gt, ax_gi, am_let, Option.bind_some, ax_gbl, ax_gb2, ax_gd, Int.reduceEq, Int.reduceNe, Int.reduceLT, Int.reduceLE, Int.reduceAdd, Int.reduceSub, Int.reduceMul, Int.reduceNeg, reduceIte, ite_true, ite_false, true_and, and_true, false_and, and_false, true_or, or_true, false_or, or_false, not_true_eq_false, not_false_eq_true, and_self, or_self, eq_self, ite_self, decide_true, decide_false, Bool.true_and, Bool.and_true, Bool.and_self, Bool.false_and, Int.sub_zero, Int.add_zero, Int.zero_add, ax_rw, if_pos, if_neg, ax_w32, ax_o_15, kr_15_0, kr_15_2, kr_15_3, kr_15_4, kr_15_5, ax_a_16, ax_a_17, ax_a_18, ax_a_19, ax_a_20, ax_o_21, kr_21_0, kr_21_2, kr_21_3, kr_21_4, kr_21_5, ax_a_22, ax_a_23, ax_a_24, ax_a_25, ax_a_26, ax_o_27, kr_27_0, kr_27_2, kr_27_3, kr_27_4, kr_27_5, ax_a_28, ax_a_29, ax_a_30, ax_a_31, ax_a_32, ax_o_33, kr_33_0, kr_33_2, kr_33_3, kr_33_4, kr_33_5, ax_a_34, ax_a_35, ax_a_36, ax_a_37, ax_a_38, ax_o_39, kr_39_0, kr_39_1, kr_39_2, kr_39_3, ax_a_40, ax_a_41, hc, hb, hr, e1]
      rw [aq_123_38]
      try simp (disch := first | assumption | omega) only [ax_gt, ax_gi, am_let, Option.bind_some, ax_gbl, ax_gb2, ax_gd, Int.reduceEq, Int.reduceNe, Int.reduceLT, Int.reduceLE, Int.reduceAdd, Int.reduceSub, Int.reduceMul, Int.reduceNeg, reduceIte, ite_true, ite_false, true_and, and_true, false_and, and_false, true_or, or_true, false_or, or_false, not_true_eq_false, not_false_eq_true, and_self, or_self, eq_self, ite_self, decide_true, decide_false, Bool.true_and, Bool.and_true, Bool.and_self, Bool.false_and, Int.sub_zero, Int.add_zero, Int.zero_add, ax_rw, if_pos, if_neg, ax_w32, ax_o_15, kr_15_0, kr_15_2, kr_15_3, kr_15_4, kr_15_5, ax_a_16, ax_a_17, ax_a_18, ax_a_19, ax_a_20, ax_o_21, kr_21_0, kr_21_2, kr_21_3, kr_21_4, kr_21_5, ax_a_22, ax_a_23, ax_a_24, ax_a_25, ax_a_26, ax_o_27, kr_27_0, kr_27_2, kr_27_3, kr_27_4, kr_27_5, ax_a_28, ax_a_29, ax_a_30, ax_a_31, ax_a_32, ax_o_33, kr_33_0, kr_33_2, kr_33_3, kr_33_4, kr_33_5, ax_a_34, ax_a_35, ax_a_36, ax_a_37, ax_a_38, ax_o_39, kr_39_0, kr_39_1, kr_39_2, kr_39_3, ax_a_40, ax_a_41, hc, hb, hr, e1]
      rw [aq_123_39]
      try simp (disch := first | assumption | omega) only [ax_gt, ax_gi, am_let, Option.bind_some, ax_gbl, ax_gb2, ax_gd, Int.reduceEq, Int.reduceNe, Int.reduceLT, Int.reduceLE, Int.reduceAdd, Int.reduceSub, Int.reduceMul, Int.reduceNeg, reduceIte, ite_true, ite_false, true_and, and_true, false_and, and_false, true_or, or_true, false_or, or_false, not_true_eq_false, not_false_eq_true, and_self, or_self, eq_self, ite_self, decide_true, decide_false, Bool.true_and, Bool.and_true, Bool.and_self, Bool.false_and, Int.sub_zero, Int.add_zero, Int.zero_add, ax_rw, if_pos, if_neg, ax_w32, ax_o_15, kr_15_0, kr_15_2, kr_15_3, kr_15_4, kr_15_5, ax_a_16, ax_a_17, ax_a_18, ax_a_19, ax_a_20, ax_o_21, kr_21_0, kr_21_2, kr_21_3, kr_21_4, kr_21_5, ax_a_22, ax_a_23, ax_a_24, ax_a_25, ax_a_26, ax_o_27, kr_27_0, kr_27_2, kr_27_3, kr_27_4, kr_27_5, ax_a_28, ax_a_29, ax_a_30, ax_a_31, ax_a_32, ax_o_33, kr_33_0, kr_33_2, kr_33_3, kr_33_4, kr_33_5, ax_a_34, ax_a_35, ax_a_36, ax_a_37, ax_a_38, ax_o_39, kr_39_0, kr_39_1, kr_39_2, kr_39_3, ax_a_40, ax_a_41, hc, hb, hr, e1]
      rw [aq_123_50]
      try simp (disch := first | assumption | omega) only [ax_gt, ax_gi, am_let, Option.bind_some, ax_gbl, ax_gb2, ax_gd, Int.reduceEq, Int.reduceNe, Int.reduceLT, Int.reduceLE, Int.reduceAdd, Int.reduceSub, Int.reduceMul, Int.reduceNeg, reduceIte, ite_true, ite_false, true_and, and_true, false_and, and_false, true_or, or_true, false_or, or_false, not_true_eq_false, not_false_eq_true, and_self, or_self, eq_self, ite_self, decide_true, decide_false, Bool.true_and, Bool.and_true, Bool.and_self, Bool.false_and, Int.sub_zero, Int.add_zero, Int.zero_add, ax_rw, if_pos, if_neg, ax_w32, ax_o_15, kr_15_0, kr_15_2, kr_15_3, kr_15_4, kr_15_5, ax_a_16, ax_a_17, ax_a_18, ax_a_19, ax_a_20, ax_o_21, kr_21_0, kr_21_2, kr_21_3, kr_21_4, kr_21_5, ax_a_22, ax_a_23, ax_a_24, ax_a_25, ax_a_26, ax_o_27, kr_27_0, kr_27_2, kr_27_3, kr_27_4, kr_27_5, ax_a_28, ax_a_29, ax_a_30, ax_a_31, ax_a_32, ax_o_33, kr_33_0, kr_33_2, kr_33_3, kr_33_4, kr_33_5, ax_a_34, ax_a_35, ax_a_36, ax_a_37, ax_a_38, ax_o_39, kr_39_0, kr_39_1, kr_39_2, kr_39_3, ax_a_40, ax_a_41, hc, hb, hr, e1]
      rw [aq_123_53]
      try simp (disch := first | assumption | omega) only [ax_gt, ax_gi, am_let, Option.bind_some, ax_gbl, ax_gb2, ax_gd, Int.reduceEq, Int.reduceNe, Int.reduceLT, Int.reduceLE, Int.reduceAdd, Int.reduceSub, Int.reduceMul, Int.reduceNeg, reduceIte, ite_true, ite_false, true_and, and_true, false_and, and_false, true_or, or_true, false_or, or_false, not_true_eq_false, not_false_eq_true, and_self, or_self, eq_self, ite_self, decide_true, decide_false, Bool.true_and, Bool.and_true, Bool.and_self, Bool.false_and, Int.sub_zero, Int.add_zero, Int.zero_add, ax_rw, if_pos, if_neg, ax_w32, ax_o_15, kr_15_0, kr_15_2, kr_15_3, kr_15_4, kr_15_5, ax_a_16, ax_a_17, ax_a_18, ax_a_19, ax_a_20, ax_o_21, kr_21_0, kr_21_2, kr_21_3, kr_21_4, kr_21_5, ax_a_22, ax_a_23, ax_a_24, ax_a_25, ax_a_26, ax_o_27, kr_27_0, kr_27_2, kr_27_3, kr_27_4, kr_27_5, ax_a_28, ax_a_29, ax_a_30, ax_a_31, ax_a_32, ax_o_33, kr_33_0, kr_33_2, kr_33_3, kr_33_4, kr_33_5, ax_a_34, ax_a_35, ax_a_36, ax_a_37, ax_a_38, ax_o_39, kr_39_0, kr_39_1, kr_39_2, kr_39_3, ax_a_40, ax_a_41, hc, hb, hr, e1]
      rw [aq_123_63]
      try simp (disch := first | assumption | omega) only [ax_gt, ax_gi, am_let, Option.bind_some, ax_gbl, ax_gb2, ax_gd, Int.reduceEq, Int.reduceNe, Int.reduceLT, Int.reduceLE, Int.reduceAdd, Int.reduceSub, Int.reduceMul, Int.reduceNeg, reduceIte, ite_true, ite_false, true_and, and_true, false_and, and_false, true_or, or_true, false_or, or_false, not_true_eq_false, not_false_eq_true, and_self, or_self, eq_self, ite_self, decide_true, decide_false, Bool.true_and, Bool.and_true, Bool.and_self, Bool.false_and, Int.sub_zero, Int.add_zero, Int.zero_add, ax_rw, if_pos, if_neg, ax_w32, ax_o_15, kr_15_0, kr_15_2, kr_15_3, kr_15_4, kr_15_5, ax_a_16, ax_a_17, ax_a_18, ax_a_19, ax_a_20, ax_o_21, kr_21_0, kr_21_2, kr_21_3, kr_21_4, kr_21_5, ax_a_22, ax_a_23, ax_a_24, ax_a_25, ax_a_26, ax_o_27, kr_27_0, kr_27_2, kr_27_3, kr_27_4, kr_27_5, ax_a_28, ax_a_29, ax_a_30, ax_a_31, ax_a_32, ax_o_33, kr_33_0, kr_33_2, kr_33_3, kr_33_4, kr_33_5, ax_a_34, ax_a_35, ax_a_36, ax_a_37, ax_a_38, ax_o_39, kr_39_0, kr_39_1, kr_39_2, kr_39_3, ax_a_40, ax_a_41, hc, hb, hr, e1]
      rw [aq_123_85]
      try simp (disch := first | assumption | omega) only [ax_gt, ax_gi, am_let, Option.bind_some, ax_gbl, ax_gb2, ax_gd, Int.reduceEq, Int.reduceNe, Int.reduceLT, Int.reduceLE, Int.reduceAdd, Int.reduceSub, Int.reduceMul, Int.reduceNeg, reduceIte, ite_true, ite_false, true_and, and_true, false_and, and_false, true_or, or_true, false_or, or_false, not_true_eq_false, not_false_eq_true, and_self, or_self, eq_self, ite_self, decide_true, decide_false, Bool.true_and, Bool.and_true, Bool.and_self, Bool.false_and, Int.sub_zero, Int.add_zero, Int.zero_add, ax_rw, if_pos, if_neg, ax_w32, ax_o_15, kr_15_0, kr_15_2, kr_15_3, kr_15_4, kr_15_5, ax_a_16, ax_a_17, ax_a_18, ax_a_19, ax_a_20, ax_o_21, kr_21_0, kr_21_2, kr_21_3, kr_21_4, kr_21_5, ax_a_22, ax_a_23, ax_a_24, ax_a_25, ax_a_26, ax_o_27, kr_27_0, kr_27_2, kr_27_3, kr_27_4, kr_27_5, ax_a_28, ax_a_29, ax_a_30, ax_a_31, ax_a_32, ax_o_33, kr_33_0, kr_33_2, kr_33_3, kr_33_4, kr_33_5, ax_a_34, ax_a_35, ax_a_36, ax_a_37, ax_a_38, ax_o_39, kr_39_0, kr_39_1, kr_39_2, kr_39_3, ax_a_40, ax_a_41, hc, hb, hr, e1]
      rw [aq_123_97]
      try simp (disch := first | assumption | omega) only [ax_gt, ax_gi, am_let, Option.bind_some, ax_gbl, ax_gb2, ax_gd, Int.reduceEq, Int.reduceNe, Int.reduceLT, Int.reduceLE, Int.reduceAdd, Int.reduceSub, Int.reduceMul, Int.reduceNeg, reduceIte, ite_true, ite_false, true_and, and_true, false_and, and_false, true_or, or_true, false_or, or_false, not_true_eq_false, not_false_eq_true, and_self, or_self, eq_self, ite_self, decide_true, decide_false, Bool.true_and, Bool.and_true, Bool.and_self, Bool.false_and, Int.sub_zero, Int.add_zero, Int.zero_add, ax_rw, if_pos, if_neg, ax_w32, ax_o_15, kr_15_0, kr_15_2, kr_15_3, kr_15_4, kr_15_5, ax_a_16, ax_a_17, ax_a_18, ax_a_19, ax_a_20, ax_o_21, kr_21_0, kr_21_2, kr_21_3, kr_21_4, kr_21_5, ax_a_22, ax_a_23, ax_a_24, ax_a_25, ax_a_26, ax_o_27, kr_27_0, kr_27_2, kr_27_3, kr_27_4, kr_27_5, ax_a_28, ax_a_29, ax_a_30, ax_a_31, ax_a_32, ax_o_33, kr_33_0, kr_33_2, kr_33_3, kr_33_4, kr_33_5, ax_a_34, ax_a_35, ax_a_36, ax_a_37, ax_a_38, ax_o_39, kr_39_0, kr_39_1, kr_39_2, kr_39_3, ax_a_40, ax_a_41, hc, hb, hr, e1]
      rw [aq_123_132]
      try simp (disch := first | assumption | omega) only [ax_gt, ax_gi, am_let, Option.bind_some, ax_gbl, ax_gb2, ax_gd, Int.reduceEq, Int.reduceNe, Int.reduceLT, Int.reduceLE, Int.reduceAdd, Int.reduceSub, Int.reduceMul, Int.reduceNeg, reduceIte, ite_true, ite_false, true_and, and_true, false_and, and_false, true_or, or_true, false_or, or_false, not_true_eq_false, not_false_eq_true, and_self, or_self, eq_self, ite_self, decide_true, decide_false, Bool.true_and, Bool.and_true, Bool.and_self, Bool.false_and, Int.sub_zero, Int.add_zero, Int.zero_add, ax_rw, if_pos, if_neg, ax_w32, ax_o_15, kr_15_0, kr_15_2, kr_15_3, kr_15_4, kr_15_5, ax_a_16, ax_a_17, ax_a_18, ax_a_19, ax_a_20, ax_o_21, kr_21_0, kr_21_2, kr_21_3, kr_21_4, kr_21_5, ax_a_22, ax_a_23, ax_a_24, ax_a_25, ax_a_26, ax_o_27, kr_27_0, kr_27_2, kr_27_3, kr_27_4, kr_27_5, ax_a_28, ax_a_29, ax_a_30, ax_a_31, ax_a_32, ax_o_33, kr_33_0, kr_33_2, kr_33_3, kr_33_4, kr_33_5, ax_a_34, ax_a_35, ax_a_36, ax_a_37, ax_a_38, ax_o_39, kr_39_0, kr_39_1, kr_39_2, kr_39_3, ax_a_40, ax_a_41, hc, hb, hr, e1]
      rw [aq_123_134]
      try simp (disch := first | assumption | omega) only [ax_gt, ax_gi, am_let, Option.bind_some, ax_gbl, ax_gb2, ax_gd, Int.reduceEq, Int.reduceNe, Int.reduceLT, Int.reduceLE, Int.reduceAdd, Int.reduceSub, Int.reduceMul, Int.reduceNeg, reduceIte, ite_true, ite_false, true_and, and_true, false_and, and_false, true_or, or_true, false_or, or_false, not_true_eq_false, not_false_eq_true, and_self, or_self, eq_self, ite_self, decide_true, decide_false, Bool.true_and, Bool.and_true, Bool.and_self, Bool.false_and, Int.sub_zero, Int.add_zero, Int.zero_add, ax_rw, if_pos, if_neg, ax_w32, ax_o_15, kr_15_0, kr_15_2, kr_15_3, kr_15_4, kr_15_5, ax_a_16, ax_a_17, ax_a_18, ax_a_19, ax_a_20, ax_o_21, kr_21_0, kr_21_2, kr_21_3, kr_21_4, kr_21_5, ax_a_22, ax_a_23, ax_a_24, ax_a_25, ax_a_26, ax_o_27, kr_27_0, kr_27_2, kr_27_3, kr_27_4, kr_27_5, ax_a_28, ax_a_29, ax_a_30, ax_a_31, ax_a_32, ax_o_33, kr_33_0, kr_33_2, kr_33_3, kr_33_4, kr_33_5, ax_a_34, ax_a_35, ax_a_36, ax_a_37, ax_a_38, ax_o_39, kr_39_0, kr_39_1, kr_39_2, kr_39_3, ax_a_40, ax_a_41, hc, hb, hr, e1]
theorem c_123two (hK : ax_K M) (hs : s = 15 ∨ s = 21 ∨ s = 27 ∨ s = 33) (i0 : 0 ≤ i) (i1 : i < to) (i2 : to ≤ 300) (n0 : 2 ≤ n) (n1 : n < 64) {k a b r : Int} (hk : 21 ≤ k ∧ k ≤ 41 ∧ ¬ k = 23 ∧ ¬ k = 24) (hc : am_rd M (s + 1) i = -k) (hb : am_rd M 41 (n - 1) = b) (ha : am_rd M 41 (n - 1 - 1) = a) (hr : ∀ d, am_Call d 33 [(0, k), (0, a), (0, b)] M = some (r, M)) : lx_rX d s n i to M = lx_rX d s (n - 1) (i + 1) to (am_wr M 41 (n - 2) r) := by
  unfold lx_rX
  rw [aq_123_5]
  have e0 : n - 1 - 1 = n - 2 := by omega
  rw [e0] at ha
  have e1 : n - 2 + 1 = n - 1 := by omega
  have e2 : -(-k) = k := by omega
  rcases hs with rfl | rfl | rfl | rfl
  all_goals
    simp (disch := first | assumption | omega) only [Int.reduceEq, Int.reduceNe, Int.reduceLT, Int.reduceLE, Int.reduceAdd, Int.reduceSub, Int.reduceMul, Int.reduceNeg, reduceIte, ite_true, ite_false, true_and, and_true, false_and, and_false, true_or, or_true, false_or, or_false, not_true_eq_false, not_false_eq_true, and_self, or_self, eq_self, ite_self, decide_true, decide_false, Bool.true_and, Bool.and_true, Bool.and_self, Bool.false_and, Int.sub_zero, Int.add_zero, Int.zero_add] at hc
    simp (disch := first | assumption | omega) only [ax_gt, ax_gi, am_let, Option.bind_some, ax_gbl, ax_gb2, ax_gd, Int.reduceEq, Int.reduceNe, Int.reduceLT, Int.reduceLE, Int.reduceAdd, Int.reduceSub, Int.reduceMul, Int.reduceNeg, reduceIte, ite_true, ite_false, true_and, and_true, false_and, and_false, true_or, or_true, false_or, or_false, not_true_eq_false, not_false_eq_true, and_self, or_self, eq_self, ite_self, decide_true, decide_false, Bool.true_and, Bool.and_true, Bool.and_self, Bool.false_and, Int.sub_zero, Int.add_zero, Int.zero_add, ax_rw, if_pos, if_neg, ax_w32, ax_o_15, kr_15_0, kr_15_2, kr_15_3, kr_15_4, kr_15_5, ax_a_16, ax_a_17, ax_a_18, ax_a_19, ax_a_20, ax_o_21, kr_21_0, kr_21_2, kr_21_3, kr_21_4, kr_21_5, ax_a_22, ax_a_23, ax_a_24, ax_a_25, ax_a_26, ax_o_27, kr_27_0, kr_27_2, kr_27_3, kr_27_4, kr_27_5, ax_a_28, ax_a_29, ax_a_30, ax_a_31, ax_a_32, ax_o_33, kr_33_0, kr_33_2, kr_33_3, kr_33_4, kr_33_5, ax_a_34, ax_a_35, ax_a_36, ax_a_37, ax_a_38, ax_o_39, kr_39_0, kr_39_1, kr_39_2, kr_39_3, ax_a_40, ax_a_41, hc, hb, ha, hr, e1, e2]
    rw [aq_123_24]
    try simp (disch := first | assumption | omega) only [ax_gt, ax_gi, am_let, Option.bind_some, ax_gbl, ax_gb2, ax_gd, Int.reduceEq, Int.reduceNe, Int.reduceLT, Int.reduceLE, Int.reduceAdd, Int.reduceSub, Int.reduceMul, Int.reduceNeg, reduceIte, ite_true, ite_false, true_and, and_true, false_and, and_false, true_or, or_true, false_or, or_false, not_true_eq_false, not_false_eq_true, and_self, or_self, eq_self, ite_self, decide_true, decide_false, Bool.true_and, Bool.and_true, Bool.and_self, Bool.false_and, Int.sub_zero, Int.add_zero, Int.zero_add, ax_rw, if_pos, if_neg, ax_w32, ax_o_15, kr_15_0, kr_15_2, kr_15_3, kr_15_4, kr_15_5, ax_a_16, ax_a_17, ax_a_18, ax_a_19, ax_a_20, ax_o_21, kr_21_0, kr_21_2, kr_21_3, kr_21_4, kr_21_5, ax_a_22, ax_a_23, ax_a_24, ax_a_25, ax_a_26, ax_o_27, kr_27_0, kr_27_2, kr_27_3, kr_27_4, kr_27_5, ax_a_28, ax_a_29, ax_a_30, ax_a_31, ax_a_32, ax_o_33, kr_33_0, kr_33_2, kr_33_3, kr_33_4, kr_33_5, ax_a_34, ax_a_35, ax_a_36, ax_a_37, ax_a_38, ax_o_39, kr_39_0, kr_39_1, kr_39_2, kr_39_3, ax_a_40, ax_a_41, hc, hb, ha, hr, e1, e2]
    rw [aq_123_38]
    try simp (disch := first | assumption | omega) only [ax_gt, ax_gi, am_let, Option.bind_some, ax_gbl, ax_gb2, ax_gd, Int.reduceEq, Int.reduceNe, Int.reduceLT, Int.reduceLE, Int.reduceAdd, Int.reduceSub, Int.reduceMul, Int.reduceNeg, reduceIte, ite_true, ite_false, true_and, and_true, false_and, and_false, true_or, or_true, false_or, or_false, not_true_eq_false, not_false_eq_true, and_self, or_self, eq_self, ite_self, decide_true, decide_false, Bool.true_and, Bool.and_true, Bool.and_self, Bool.false_and, Int.sub_zero, Int.add_zero, Int.zero_add, ax_rw, if_pos, if_neg, ax_w32, ax_o_15, kr_15_0, kr_15_2, kr_15_3, kr_15_4, kr_15_5, ax_a_16, ax_a_17, ax_a_18, ax_a_19, ax_a_20, ax_o_21, kr_21_0, kr_21_2, kr_21_3, kr_21_4, kr_21_5, ax_a_22, ax_a_23, ax_a_24, ax_a_25, ax_a_26, ax_o_27, kr_27_0, kr_27_2, kr_27_3, kr_27_4, kr_27_5, ax_a_28, ax_a_29, ax_a_30, ax_a_31, ax_a_32, ax_o_33, kr_33_0, kr_33_2, kr_33_3, kr_33_4, kr_33_5, ax_a_34, ax_a_35, ax_a_36, ax_a_37, ax_a_38, ax_o_39, kr_39_0, kr_39_1, kr_39_2, kr_39_3, ax_a_40, ax_a_41, hc, hb, ha, hr, e1, e2]
    rw [aq_123_39]
    try simp (disch := first | assumption | omega) only [ax_gt, ax_gi, am_let, Option.bind_some, ax_gbl, ax_gb2, ax_gd, Int.reduceEq, Int.reduceNe, Int.reduceLT, Int.reduceLE, Int.reduceAdd, Int.reduceSub, Int.reduceMul, Int.reduceNeg, reduceIte, ite_true, ite_false, true_and, and_true, false_and, and_false, true_or, or_true, false_or, or_false, not_true_eq_false, not_false_eq_true, and_self, or_self, eq_self, ite_self, decide_true, decide_false, Bool.true_and, Bool.and_true, Bool.and_self, Bool.false_and, Int.sub_zero, Int.add_zero, Int.zero_add, ax_rw, if_pos, if_neg, ax_w32, ax_o_15, kr_15_0, kr_15_2, kr_15_3, kr_15_4, kr_15_5, ax_a_16, ax_a_17, ax_a_18, ax_a_19, ax_a_20, ax_o_21, kr_21_0, kr_21_2, kr_21_3, kr_21_4, kr_21_5, ax_a_22, ax_a_23, ax_a_24, ax_a_25, ax_a_26, ax_o_27, kr_27_0, kr_27_2, kr_27_3, kr_27_4, kr_27_5, ax_a_28, ax_a_29, ax_a_30, ax_a_31, ax_a_32, ax_o_33, kr_33_0, kr_33_2, kr_33_3, kr_33_4, kr_33_5, ax_a_34, ax_a_35, ax_a_36, ax_a_37, ax_a_38, ax_o_39, kr_39_0, kr_39_1, kr_39_2, kr_39_3, ax_a_40, ax_a_41, hc, hb, ha, hr, e1, e2]
    rw [aq_123_53]
    try simp (disch := first | assumption | omega) only [ax_gt, ax_gi, am_let, Option.bind_some, ax_gbl, ax_gb2, ax_gd, Int.reduceEq, Int.reduceNe, Int.reduceLT, Int.reduceLE, Int.reduceAdd, Int.reduceSub, Int.reduceMul, Int.reduceNeg, reduceIte, ite_true, ite_false, true_and, and_true, false_and, and_false, true_or, or_true, false_or, or_false, not_true_eq_false, not_false_eq_true, and_self, or_self, eq_self, ite_self, decide_true, decide_false, Bool.true_and, Bool.and_true, Bool.and_self, Bool.false_and, Int.sub_zero, Int.add_zero, Int.zero_add, ax_rw, if_pos, if_neg, ax_w32, ax_o_15, kr_15_0, kr_15_2, kr_15_3, kr_15_4, kr_15_5, ax_a_16, ax_a_17, ax_a_18, ax_a_19, ax_a_20, ax_o_21, kr_21_0, kr_21_2, kr_21_3, kr_21_4, kr_21_5, ax_a_22, ax_a_23, ax_a_24, ax_a_25, ax_a_26, ax_o_27, kr_27_0, kr_27_2, kr_27_3, kr_27_4, kr_27_5, ax_a_28, ax_a_29, ax_a_30, ax_a_31, ax_a_32, ax_o_33, kr_33_0, kr_33_2, kr_33_3, kr_33_4, kr_33_5, ax_a_34, ax_a_35, ax_a_36, ax_a_37, ax_a_38, ax_o_39, kr_39_0, kr_39_1, kr_39_2, kr_39_3, ax_a_40, ax_a_41, hc, hb, ha, hr, e1, e2]
    rw [aq_123_63]
    try simp (disch := first | assumption | omega) only [ax_gt, ax_gi, am_let, Option.bind_some, ax_gbl, ax_gb2, ax_gd, Int.reduceEq, Int.reduceNe, Int.reduceLT, Int.reduceLE, Int.reduceAdd, Int.reduceSub, Int.reduceMul, Int.reduceNeg, reduceIte, ite_true, ite_false, true_and, and_true, false_and, and_false, true_or, or_true, false_or, or_false, not_true_eq_false, not_false_eq_true, and_self, or_self, eq_self, ite_self, decide_true, decide_false, Bool.true_and, Bool.and_true, Bool.and_self, Bool.false_and, Int.sub_zero, Int.add_zero, Int.zero_add, ax_rw, if_pos, if_neg, ax_w32, ax_o_15, kr_15_0, kr_15_2, kr_15_3, kr_15_4, kr_15_5, ax_a_16, ax_a_17, ax_a_18, ax_a_19, ax_a_20, ax_o_21, kr_21_0, kr_21_2, kr_21_3, kr_21_4, kr_21_5, ax_a_22, ax_a_23, ax_a_24, ax_a_25, ax_a_26, ax_o_27, kr_27_0, kr_27_2, kr_27_3, kr_27_4, kr_27_5, ax_a_28, ax_a_29, ax_a_30, ax_a_31, ax_a_32, ax_o_33, kr_33_0, kr_33_2, kr_33_3, kr_33_4, kr_33_5, ax_a_34, ax_a_35, ax_a_36, ax_a_37, ax_a_38, ax_o_39, kr_39_0, kr_39_1, kr_39_2, kr_39_3, ax_a_40, ax_a_41, hc, hb, ha, hr, e1, e2]
    rw [aq_123_85]
    try simp (disch := first | assumption | omega) only [ax_gt, ax_gi, am_let, Option.bind_some, ax_gbl, ax_gb2, ax_gd, Int.reduceEq, Int.reduceNe, Int.reduceLT, Int.reduceLE, Int.reduceAdd, Int.reduceSub, Int.reduceMul, Int.reduceNeg, reduceIte, ite_true, ite_false, true_and, and_true, false_and, and_false, true_or, or_true, false_or, or_false, not_true_eq_false, not_false_eq_true, and_self, or_self, eq_self, ite_self, decide_true, decide_false, Bool.true_and, Bool.and_true, Bool.and_self, Bool.false_and, Int.sub_zero, Int.add_zero, Int.zero_add, ax_rw, if_pos, if_neg, ax_w32, ax_o_15, kr_15_0, kr_15_2, kr_15_3, kr_15_4, kr_15_5, ax_a_16, ax_a_17, ax_a_18, ax_a_19, ax_a_20, ax_o_21, kr_21_0, kr_21_2, kr_21_3, kr_21_4, kr_21_5, ax_a_22, ax_a_23, ax_a_24, ax_a_25, ax_a_26, ax_o_27, kr_27_0, kr_27_2, kr_27_3, kr_27_4, kr_27_5, ax_a_28, ax_a_29, ax_a_30, ax_a_31, ax_a_32, ax_o_33, kr_33_0, kr_33_2, kr_33_3, kr_33_4, kr_33_5, ax_a_34, ax_a_35, ax_a_36, ax_a_37, ax_a_38, ax_o_39, kr_39_0, kr_39_1, kr_39_2, kr_39_3, ax_a_40, ax_a_41, hc, hb, ha, hr, e1, e2]
    rw [aq_123_97]
    try simp (disch := first | assumption | omega) only [ax_gt, ax_gi, am_let, Option.bind_some, ax_gbl, ax_gb2, ax_gd, Int.reduceEq, Int.reduceNe, Int.reduceLT, Int.reduceLE, Int.reduceAdd, Int.reduceSub, Int.reduceMul, Int.reduceNeg, reduceIte, ite_true, ite_false, true_and, and_true, false_and, and_false, true_or, or_true, false_or, or_false, not_true_eq_false, not_false_eq_true, and_self, or_self, eq_self, ite_self, decide_true, decide_false, Bool.true_and, Bool.and_true, Bool.and_self, Bool.false_and, Int.sub_zero, Int.add_zero, Int.zero_add, ax_rw, if_pos, if_neg, ax_w32, ax_o_15, kr_15_0, kr_15_2, kr_15_3, kr_15_4, kr_15_5, ax_a_16, ax_a_17, ax_a_18, ax_a_19, ax_a_20, ax_o_21, kr_21_0, kr_21_2, kr_21_3, kr_21_4, kr_21_5, ax_a_22, ax_a_23, ax_a_24, ax_a_25, ax_a_26, ax_o_27, kr_27_0, kr_27_2, kr_27_3, kr_27_4, kr_27_5, ax_a_28, ax_a_29, ax_a_30, ax_a_31, ax_a_32, ax_o_33, kr_33_0, kr_33_2, kr_33_3, kr_33_4, kr_33_5, ax_a_34, ax_a_35, ax_a_36, ax_a_37, ax_a_38, ax_o_39, kr_39_0, kr_39_1, kr_39_2, kr_39_3, ax_a_40, ax_a_41, hc, hb, ha, hr, e1, e2]
    rw [aq_123_132]
    try simp (disch := first | assumption | omega) only [ax_gt, ax_gi, am_let, Option.bind_some, ax_gbl, ax_gb2, ax_gd, Int.reduceEq, Int.reduceNe, Int.reduceLT, Int.reduceLE, Int.reduceAdd, Int.reduceSub, Int.reduceMul, Int.reduceNeg, reduceIte, ite_true, ite_false, true_and, and_true, false_and, and_false, true_or, or_true, false_or, or_false, not_true_eq_false, not_false_eq_true, and_self, or_self, eq_self, ite_self, decide_true, decide_false, Bool.true_and, Bool.and_true, Bool.and_self, Bool.false_and, Int.sub_zero, Int.add_zero, Int.zero_add, ax_rw, if_pos, if_neg, ax_w32, ax_o_15, kr_15_0, kr_15_2, kr_15_3, kr_15_4, kr_15_5, ax_a_16, ax_a_17, ax_a_18, ax_a_19, ax_a_20, ax_o_21, kr_21_0, kr_21_2, kr_21_3, kr_21_4, kr_21_5, ax_a_22, ax_a_23, ax_a_24, ax_a_25, ax_a_26, ax_o_27, kr_27_0, kr_27_2, kr_27_3, kr_27_4, kr_27_5, ax_a_28, ax_a_29, ax_a_30, ax_a_31, ax_a_32, ax_o_33, kr_33_0, kr_33_2, kr_33_3, kr_33_4, kr_33_5, ax_a_34, ax_a_35, ax_a_36, ax_a_37, ax_a_38, ax_o_39, kr_39_0, kr_39_1, kr_39_2, kr_39_3, ax_a_40, ax_a_41, hc, hb, ha, hr, e1, e2]
    rw [aq_123_134]
    try simp (disch := first | assumption | omega) only [ax_gt, ax_gi, am_let, Option.bind_some, ax_gbl, ax_gb2, ax_gd, Int.reduceEq, Int.reduceNe, Int.reduceLT, Int.reduceLE, Int.reduceAdd, Int.reduceSub, Int.reduceMul, Int.reduceNeg, reduceIte, ite_true, ite_false, true_and, and_true, false_and, and_false, true_or, or_true, false_or, or_false, not_true_eq_false, not_false_eq_true, and_self, or_self, eq_self, ite_self, decide_true, decide_false, Bool.true_and, Bool.and_true, Bool.and_self, Bool.false_and, Int.sub_zero, Int.add_zero, Int.zero_add, ax_rw, if_pos, if_neg, ax_w32, ax_o_15, kr_15_0, kr_15_2, kr_15_3, kr_15_4, kr_15_5, ax_a_16, ax_a_17, ax_a_18, ax_a_19, ax_a_20, ax_o_21, kr_21_0, kr_21_2, kr_21_3, kr_21_4, kr_21_5, ax_a_22, ax_a_23, ax_a_24, ax_a_25, ax_a_26, ax_o_27, kr_27_0, kr_27_2, kr_27_3, kr_27_4, kr_27_5, ax_a_28, ax_a_29, ax_a_30, ax_a_31, ax_a_32, ax_o_33, kr_33_0, kr_33_2, kr_33_3, kr_33_4, kr_33_5, ax_a_34, ax_a_35, ax_a_36, ax_a_37, ax_a_38, ax_o_39, kr_39_0, kr_39_1, kr_39_2, kr_39_3, ax_a_40, ax_a_41, hc, hb, ha, hr, e1, e2]
theorem c_33x {o a b : Int} (ho : o = 43 ∨ o = 45 ∨ o = 42 ∨ o = 47 ∨ o = 60 ∨ o = 62 ∨ o = 61 ∨ o = 35 ∨ o = 300 ∨ o = 301) (ha : -1000000 ≤ a ∧ a ≤ 1000000) (hb : -1000000 ≤ b ∧ b ≤ 1000000) : am_Call d 33 [(0, lx_tk o), (0, a), (0, b)] M = some (lx_2 o a b, M) := by
  rcases ho with rfl | rfl | rfl | rfl | rfl | rfl | rfl | rfl | rfl | rfl
  · exact c_33_43 ha hb
  · exact c_33_45 ha hb
  · exact c_33_42 ha hb
  · exact c_33_47 ha hb
  · exact c_33_60 ha hb
  · exact c_33_62 ha hb
  · exact c_33_61 ha hb
  · exact c_33_35 ha hb
  · exact c_33_300 ha hb
  · exact c_33_301 ha hb
theorem lx_tkr {o : Int} (h : o = 43 ∨ o = 45 ∨ o = 42 ∨ o = 47 ∨ o = 60 ∨ o = 62 ∨ o = 61 ∨ o = 35 ∨ o = 300 ∨ o = 301 ∨ o = 406 ∨ o = 407) : 21 ≤ lx_tk o ∧ lx_tk o ≤ 41 ∧ ¬ lx_tk o = 23 ∧ ¬ lx_tk o = 24 := by
  rcases h with rfl | rfl | rfl | rfl | rfl | rfl | rfl | rfl | rfl | rfl | rfl | rfl <;> decide
/-- one row of code -/
theorem c_123s (hK : ax_K M) (hs : s = 15 ∨ s = 21 ∨ s = 27 ∨ s = 33) (i0 : 0 ≤ i) (i1 : i < to) (i2 : to ≤ 300) {k : Int} {ts ts' : List Bool} {vs : List Int} {x : Int × Int} (hNm : ∀ j, 0 ≤ j → j ≤ 8 → am_rd M 40 j = N j) (hn : n = (vs.length : Int)) (hl : vs.length < 62) (hV : lx_V ts vs) (hS : lx_S M n vs) (hc : am_rd M (s + 1) i = lx_enc x) (ht : lx_t k ts x = some ts') : ∃ j v, lx_rX d s n i to M = lx_rX d s ((lx_s N vs x).length : Int) (i + 1) to (am_wr M 41 j v) ∧ lx_S (am_wr M 41 j v) ((lx_s N vs x).length : Int) (lx_s N vs x) ∧ (lx_s N vs x).length < 62 := by
  have hlen := lx_V_len hV
  unfold lx_t at ht
  unfold lx_s
  unfold lx_enc at hc
  by_cases h1 : x.1 = 400
  · rw [if_pos h1] at ht hc ⊢
    split at ht
    · rename_i h
      refine ⟨n, x.2, ?_, ?_, ?_⟩
      · rw [c_123num hK hs i0 i1 i2 (by omega) (by omega) ⟨h.1, h.2.1⟩ hc, hn]
        rfl
      · refine ⟨?_, ?_⟩
        · rw [show ((x.2 :: vs).length : Int) - 1 = n from by rw [hn, List.length_cons]; omega]
          exact ax_ws
        · rw [show ((x.2 :: vs).length : Int) - 1 = n from by rw [hn, List.length_cons]; omega]
          exact lx_S_wr _ _ _ (by omega) hS
      · rw [List.length_cons]; omega
    · cases ht
  rw [if_neg h1] at ht hc ⊢
  by_cases h2 : x.1 = 401
  · rw [if_pos h2] at ht hc ⊢
    split at ht
    · rename_i h
      have hm := h.1
      unfold lx_may at hm
      simp only [Bool.and_eq_true, Bool.or_eq_true, decide_eq_true_eq] at hm
      refine ⟨n, N x.2, ?_, ?_, ?_⟩
      · rw [c_123name hK hs i0 i1 i2 (by omega) (by omega) ⟨by omega, by omega⟩ hc, hNm x.2 (by omega) (by omega), hn]
        rfl
      · refine ⟨?_, ?_⟩
        · rw [show ((N x.2 :: vs).length : Int) - 1 = n from by rw [hn, List.length_cons]; omega]
          exact ax_ws
        · rw [show ((N x.2 :: vs).length : Int) - 1 = n from by rw [hn, List.length_cons]; omega]
          exact lx_S_wr _ _ _ (by omega) hS
      · rw [List.length_cons]; omega
    · cases ht
  rw [if_neg h2] at ht hc ⊢
  cases ts with
  | nil => cases ht
  | cons b r =>
    cases vs with
    | nil => exact hV.elim
    | cons vb vr =>
      obtain ⟨hb, hr⟩ := hV
      obtain ⟨sb, sr⟩ := hS
      rw [List.length_cons] at hn hl
      dsimp only at ht ⊢
      have one : (x.1 = 402 ∨ x.1 = 403 ∨ x.1 = 405) → (∀ d, am_Call d 32 [(0, if x.1 = 402 then 45 else if x.1 = 403 then 24 else 23), (0, vb)] M = some (lx_1 x.1 vb, M)) → ∃ j v, lx_rX d s n i to M = lx_rX d s ((lx_1 x.1 vb :: vr).length : Int) (i + 1) to (am_wr M 41 j v) ∧ lx_S (am_wr M 41 j v) ((lx_1 x.1 vb :: vr).length : Int) (lx_1 x.1 vb :: vr) ∧ (lx_1 x.1 vb :: vr).length < 62 := by
        intro ho hcall
        have hc' : am_rd M (s + 1) i = -(if x.1 = 402 then 45 else if x.1 = 403 then 24 else 23) := by
          rw [hc]
          rcases ho with h | h | h <;> rw [h] <;> simp
        refine ⟨n - 1, lx_1 x.1 vb, ?_, ?_, ?_⟩
        · rw [c_123one hK hs i0 i1 i2 (by omega) (by omega) ho hc' sb hcall, List.length_cons, ← hn]
        · rw [List.length_cons, ← hn]
          exact ⟨ax_ws, lx_S_wr _ _ _ (by omega) sr⟩
        · rw [List.length_cons]; omega
      by_cases h3 : x.1 = 402 ∨ x.1 = 403
      · rw [if_pos h3] at ht
        rw [if_pos (by omega)]
        split at ht
        · rename_i h
          subst h
          refine one (by omega) fun d => ?_
          have hb : -1000000 ≤ vb ∧ vb ≤ 1000000 := hb
          exact c_32 hb (by omega)
        · cases ht
      rw [if_neg h3] at ht
      by_cases h4 : x.1 = 405
      · rw [if_pos h4] at ht
        rw [if_pos (by omega)]
        split at ht
        · rename_i h
          subst h
          refine one (by omega) fun d => ?_
          have hb : 0 ≤ vb ∧ vb ≤ 1 := hb
          exact c_32 (by omega) (by omega)
        · cases ht
      rw [if_neg h4] at ht
      rw [if_neg (by omega)]
      rw [if_neg (by omega), if_neg (by omega), if_neg h4] at hc
      cases r with
      | nil => cases ht
      | cons a r =>
        cases vr with
        | nil => exact hr.elim
        | cons va vr =>
          obtain ⟨ha, hr⟩ := hr
          obtain ⟨sa, sr⟩ := sr
          rw [List.length_cons] at hn hl
          dsimp only at ht ⊢
          have two : (x.1 = 43 ∨ x.1 = 45 ∨ x.1 = 42 ∨ x.1 = 47 ∨ x.1 = 60 ∨ x.1 = 62 ∨ x.1 = 61 ∨ x.1 = 35 ∨ x.1 = 300 ∨ x.1 = 301 ∨ x.1 = 406 ∨ x.1 = 407) → (∀ d, am_Call d 33 [(0, lx_tk x.1), (0, va), (0, vb)] M = some (lx_2 x.1 va vb, M)) → ∃ j v, lx_rX d s n i to M = lx_rX d s ((lx_2 x.1 va vb :: vr).length : Int) (i + 1) to (am_wr M 41 j v) ∧ lx_S (am_wr M 41 j v) ((lx_2 x.1 va vb :: vr).length : Int) (lx_2 x.1 va vb :: vr) ∧ (lx_2 x.1 va vb :: vr).length < 62 := by
            intro ho hcall
            refine ⟨n - 2, lx_2 x.1 va vb, ?_, ?_, ?_⟩
            · rw [c_123two hK hs i0 i1 i2 (by omega) (by omega) (lx_tkr ho) hc sb sa hcall, List.length_cons]
              congr 1
              omega
            · rw [List.length_cons]
              refine ⟨?_, ?_⟩
              · rw [show ((vr.length + 1 : Nat) : Int) - 1 = n - 2 by omega]
                exact ax_ws
              · rw [show ((vr.length + 1 : Nat) : Int) - 1 = n - 1 - 1 by omega]
                exact lx_S_wr _ _ _ (by omega) sr
            · rw [List.length_cons]; omega
          by_cases h5 : x.1 = 406 ∨ x.1 = 407
          · rw [if_pos h5] at ht
            split at ht
            · rename_i h
              obtain ⟨rfl, rfl⟩ := h
              exact two (by omega) fun d => c_33_b ha hb h5
            · cases ht
          rw [if_neg h5] at ht
          by_cases h6 : x.1 = 43 ∨ x.1 = 45 ∨ x.1 = 42 ∨ x.1 = 47
          · rw [if_pos h6] at ht
            split at ht
            · rename_i h
              obtain ⟨rfl, rfl⟩ := h
              exact two (by omega) fun d => c_33x (by omega) ha hb
            · cases ht
          rw [if_neg h6] at ht
          split at ht
          · rename_i h7
            split at ht
            · rename_i h
              obtain ⟨rfl, rfl⟩ := h
              exact two (by omega) fun d => c_33x (by omega) ha hb
            · cases ht
          · cases ht
theorem c_123e (hK : ax_K M) (hn : 0 ≤ n) (n1 : n < 64) : lx_rX d s n i i M = some (if n = 0 then 0 else am_rd M 41 (n - 1), M) := by
  unfold lx_rX
  rw [aq_123_5]
  by_cases h : n = 0
  · subst h
    simp (disch := first | assumption | omega) only [ax_gt, ax_gi, am_let, Option.bind_some, ax_gbl, ax_gb2, ax_gd, Int.reduceEq, Int.reduceNe, Int.reduceLT, Int.reduceLE, Int.reduceAdd, Int.reduceSub, Int.reduceMul, Int.reduceNeg, reduceIte, ite_true, ite_false, true_and, and_true, false_and, and_false, true_or, or_true, false_or, or_false, not_true_eq_false, not_false_eq_true, and_self, or_self, eq_self, ite_self, decide_true, decide_false, Bool.true_and, Bool.and_true, Bool.and_self, Bool.false_and, Int.sub_zero, Int.add_zero, Int.zero_add, ax_rw, if_pos, if_neg, ax_w32, ax_o_39, kr_39_0, kr_39_1, kr_39_2, kr_39_3, ax_a_40, ax_a_41, Int.lt_irrefl, aq_123_138, aq_123_148]
  · simp (disch := first | assumption | omega) only [ax_gt, ax_gi, am_let, Option.bind_some, ax_gbl, ax_gb2, ax_gd, Int.reduceEq, Int.reduceNe, Int.reduceLT, Int.reduceLE, Int.reduceAdd, Int.reduceSub, Int.reduceMul, Int.reduceNeg, reduceIte, ite_true, ite_false, true_and, and_true, false_and, and_false, true_or, or_true, false_or, or_false, not_true_eq_false, not_false_eq_true, and_self, or_self, eq_self, ite_self, decide_true, decide_false, Bool.true_and, Bool.and_true, Bool.and_self, Bool.false_and, Int.sub_zero, Int.add_zero, Int.zero_add, ax_rw, if_pos, if_neg, ax_w32, ax_o_39, kr_39_0, kr_39_1, kr_39_2, kr_39_3, ax_a_40, ax_a_41, Int.lt_irrefl, aq_123_138, aq_123_148]
theorem c_123g (hs : s = 15 ∨ s = 21 ∨ s = 27 ∨ s = 33) {k : Int} (hN : lx_N N) : ∀ (c : List (Int × Int)) (ts ts' : List Bool) (vs : List Int) (i n : Int) (M : am_M), ax_K M → (∀ j, 0 ≤ j → j ≤ 8 → am_rd M 40 j = N j) → lx_T k ts c = some ts' → lx_V ts vs → n = (vs.length : Int) → vs.length < 62 → lx_S M n vs → 0 ≤ i → i + (c.length : Int) = to → to ≤ 300 → (∀ (j : Nat) (hj : j < c.length), am_rd M (s + 1) (i + j) = lx_enc c[j]) → ax_ok (lx_rX d s n i to M) (fun r M' => r = (lx_E N vs c).headD 0 ∧ ∀ c i, c ≠ 41 → am_rd M' c i = am_rd M c i) := by
  intro c
  induction c with
  | nil =>
    intro ts ts' vs i n M hK hNm hT hV hn hl hS i0 hi h300 hc
    have : i = to := by simpa using hi
    subst this
    rw [c_123e hK (by omega) (by omega)]
    refine ax_ok_some ⟨?_, fun _ _ _ => rfl⟩
    show _ = vs.headD 0
    cases vs with
    | nil => rw [if_pos (by simpa using hn)]; rfl
    | cons b r =>
      rw [List.length_cons] at hn
      rw [if_neg (by omega)]
      exact hS.1
  | cons x c ih =>
    intro ts ts' vs i n M hK hNm hT hV hn hl hS i0 hi h300 hc
    obtain ⟨t1, h1, h2⟩ := Option.bind_eq_some_iff.mp hT
    rw [List.length_cons] at hi
    have hx : am_rd M (s + 1) i = lx_enc x := by
      have := hc 0 (Nat.succ_pos _)
      simpa using this
    obtain ⟨j, v, e1, e2, e3⟩ := c_123s (d := d) (N := N) hK hs i0 (by omega : i < to) h300 hNm hn hl hV hS hx h1
    rw [e1]
    refine ax_ok_mono (ih t1 ts' (lx_s N vs x) (i + 1) _ (am_wr M 41 j v) (ax_Kwa hK rfl (fun _ => rfl)) (fun q h0 h8 => (ax_wc (by omega)).trans (hNm q h0 h8)) h2 (lx_step hN hV h1) rfl e3 e2 (by omega) (by omega) h300 ?_) ?_
    · intro q hq
      have := hc (q + 1) (by rw [List.length_cons]; omega)
      rw [ax_wc (by omega), show i + 1 + (q : Int) = i + ((q + 1 : Nat) : Int) by omega, this]
      rfl
    · intro r m' hr
      exact ⟨hr.1, fun c i hc => (hr.2 c i hc).trans (ax_wc hc)⟩
end
