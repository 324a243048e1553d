/-! the developers' guild (cell 2) -/
def cg_B (M : am_M) : Prop := (0 ≤ am_rd M 2 5 ∧ am_rd M 2 5 ≤ 8) ∧ (0 ≤ am_rd M 2 6 ∧ am_rd M 2 6 ≤ 6) ∧ (0 ≤ am_rd M 2 7 ∧ am_rd M 2 7 ≤ 6) ∧ (0 ≤ am_rd M 2 8 ∧ am_rd M 2 8 ≤ 8) ∧ (0 ≤ am_rd M 2 11 ∧ am_rd M 2 11 ≤ 4)
section
variable {M : am_M} {d : Nat}
theorem c_7 {t : Int} (hK : ax_K M) (b : cg_B M) : am_Call d 7 [(2, 2), (0, t)] M = some (ax_b (0 ≤ t ∧ t < am_rd M 2 5), M) := by
  obtain ⟨b1, b2, b3, b4, b5⟩ := b
  rw [aq_7]
  simp (disch := first | assumption | omega) only [ax_gt, ax_gi, am_let, Option.bind_some, ax_gbl, ax_gb2, ax_gd, Int.reduceEq, Int.reduceNe, Int.reduceLT, Int.reduceLE, Int.reduceAdd, Int.reduceSub, Int.reduceMul, Int.reduceNeg, reduceIte, ite_true, ite_false, true_and, and_true, false_and, and_false, true_or, or_true, false_or, or_false, not_true_eq_false, not_false_eq_true, and_self, or_self, eq_self, ite_self, decide_true, decide_false, Bool.true_and, Bool.and_true, Bool.and_self, Bool.false_and, ax_rw, if_pos, if_neg, ax_w32, ax_o_2, kr_2_0, kr_2_1, kr_2_2, kr_2_3, kr_2_4, ax_a_3, ax_a_4, ax_a_5, ax_a_6, ax_a_7]
  (unfold ax_b; (repeat' split) <;> first | rfl | (exfalso; omega))
theorem c_8 {t : Int} (hK : ax_K M) (b : cg_B M) : am_Call d 8 [(2, 2), (0, t)] M = some (ax_b (0 ≤ t ∧ t < am_rd M 2 6), M) := by
  obtain ⟨b1, b2, b3, b4, b5⟩ := b
  rw [aq_8]
  simp (disch := first | assumption | omega) only [ax_gt, ax_gi, am_let, Option.bind_some, ax_gbl, ax_gb2, ax_gd, Int.reduceEq, Int.reduceNe, Int.reduceLT, Int.reduceLE, Int.reduceAdd, Int.reduceSub, Int.reduceMul, Int.reduceNeg, reduceIte, ite_true, ite_false, true_and, and_true, false_and, and_false, true_or, or_true, false_or, or_false, not_true_eq_false, not_false_eq_true, and_self, or_self, eq_self, ite_self, decide_true, decide_false, Bool.true_and, Bool.and_true, Bool.and_self, Bool.false_and, ax_rw, if_pos, if_neg, ax_w32, ax_o_2, kr_2_0, kr_2_1, kr_2_2, kr_2_3, kr_2_4, ax_a_3, ax_a_4, ax_a_5, ax_a_6, ax_a_7]
  (unfold ax_b; (repeat' split) <;> first | rfl | (exfalso; omega))
theorem c_9 {t : Int} (hK : ax_K M) (b : cg_B M) : am_Call d 9 [(2, 2), (0, t)] M = some (ax_b (0 ≤ t ∧ t < am_rd M 2 7), M) := by
  obtain ⟨b1, b2, b3, b4, b5⟩ := b
  rw [aq_9]
  simp (disch := first | assumption | omega) only [ax_gt, ax_gi, am_let, Option.bind_some, ax_gbl, ax_gb2, ax_gd, Int.reduceEq, Int.reduceNe, Int.reduceLT, Int.reduceLE, Int.reduceAdd, Int.reduceSub, Int.reduceMul, Int.reduceNeg, reduceIte, ite_true, ite_false, true_and, and_true, false_and, and_false, true_or, or_true, false_or, or_false, not_true_eq_false, not_false_eq_true, and_self, or_self, eq_self, ite_self, decide_true, decide_false, Bool.true_and, Bool.and_true, Bool.and_self, Bool.false_and, ax_rw, if_pos, if_neg, ax_w32, ax_o_2, kr_2_0, kr_2_1, kr_2_2, kr_2_3, kr_2_4, ax_a_3, ax_a_4, ax_a_5, ax_a_6, ax_a_7]
  (unfold ax_b; (repeat' split) <;> first | rfl | (exfalso; omega))
theorem c_10 {t : Int} (hK : ax_K M) : am_Call d 10 [(2, 2), (0, t)] M = some (ax_b (0 ≤ t ∧ t < am_rd M 2 11), M) := by
  rw [aq_10]
  simp (disch := first | assumption | omega) only [ax_gt, ax_gi, am_let, Option.bind_some, ax_gbl, ax_gb2, ax_gd, Int.reduceEq, Int.reduceNe, Int.reduceLT, Int.reduceLE, Int.reduceAdd, Int.reduceSub, Int.reduceMul, Int.reduceNeg, reduceIte, ite_true, ite_false, true_and, and_true, false_and, and_false, true_or, or_true, false_or, or_false, not_true_eq_false, not_false_eq_true, and_self, or_self, eq_self, ite_self, decide_true, decide_false, Bool.true_and, Bool.and_true, Bool.and_self, Bool.false_and, ax_rw, if_pos, if_neg, ax_w32, ax_o_2, kr_2_0, kr_2_1, kr_2_2, kr_2_3, kr_2_4, ax_a_3, ax_a_4, ax_a_5, ax_a_6, ax_a_7]
  (unfold ax_b; (repeat' split) <;> first | rfl | (exfalso; omega))
theorem c_107 {m t : Int} (hK : ax_K M) (b : cg_B M) : am_Call d 107 [(2, 2), (0, m), (0, t)] M = some (ax_b ((0 ≤ m ∧ m < am_rd M 2 6) ∧ (0 ≤ t ∧ t < am_rd M 2 5)), M) := by
  rw [aq_107]
  simp (disch := first | assumption | omega) only [ax_gt, ax_gi, am_let, Option.bind_some, ax_gbl, ax_gb2, ax_gd, Int.reduceEq, Int.reduceNe, Int.reduceLT, Int.reduceLE, Int.reduceAdd, Int.reduceSub, Int.reduceMul, Int.reduceNeg, reduceIte, ite_true, ite_false, true_and, and_true, false_and, and_false, true_or, or_true, false_or, or_false, not_true_eq_false, not_false_eq_true, and_self, or_self, eq_self, ite_self, decide_true, decide_false, Bool.true_and, Bool.and_true, Bool.and_self, Bool.false_and, ax_rw, if_pos, if_neg, ax_w32, ax_o_2, kr_2_0, kr_2_1, kr_2_2, kr_2_3, kr_2_4, ax_a_3, ax_a_4, ax_a_5, ax_a_6, ax_a_7, c_8, c_7, ax_b0]
  (unfold ax_b; (repeat' split) <;> first | rfl | (exfalso; omega))
/-! sets -/
theorem ax_low {T x : Int} (h0 : 0 ≤ T) (h1 : T ≤ 8) : (am_and x (am_xor (am_w32 (am_shl 1 T - 1)) (-1)) = 0) = (0 ≤ am_w32 x ∧ am_w32 x < ((2 ^ T.toNat : Nat) : Int)) := by
  have key : ∀ k : Fin 9, Int32.ofInt (am_xor (am_w32 (am_shl 1 (k.val : Int) - 1)) (-1)) = ~~~(Int32.ofNat (2 ^ k.val - 1)) := by decide +kernel
  have k1 := key ⟨T.toNat, by omega⟩
  have e : ((T.toNat : Nat) : Int) = T := Int.toNat_of_nonneg h0
  rw [show ((⟨T.toNat, by omega⟩ : Fin 9).val : Int) = T from e] at k1
  unfold am_and
  rw [k1]
  unfold am_w32
  generalize Int32.ofInt x = y
  have hp : (2 ^ T.toNat : Nat) ≤ 2 ^ 8 := Nat.pow_le_pow_right (by omega) (by omega)
  have hm : (Int32.ofNat (2 ^ T.toNat - 1)).toBitVec.toNat = 2 ^ T.toNat - 1 := by
    show (BitVec.ofNat 32 (2 ^ T.toNat - 1)).toNat = _
    rw [BitVec.toNat_ofNat, Nat.mod_eq_of_lt (by omega)]
  apply propext
  have h2 : (y &&& ~~~(Int32.ofNat (2 ^ T.toNat - 1))).toInt = 0 ↔ y.toBitVec.toNat < 2 ^ T.toNat := by
    rw [show ((0 : Int)) = (0 : Int32).toInt from rfl, Int32.toInt_inj, ← Int32.toBitVec_inj]
    show y.toBitVec &&& ~~~(Int32.ofNat (2 ^ T.toNat - 1)).toBitVec = 0#32 ↔ _
    constructor
    · intro h
      apply Nat.lt_pow_two_of_testBit
      intro i hi
      have h3 := congrArg (fun z => z.getLsbD i) h
      simp only [BitVec.getLsbD_and, BitVec.getLsbD_not, BitVec.getLsbD_zero] at h3
      have h4 : (Int32.ofNat (2 ^ T.toNat - 1)).toBitVec.getLsbD i = false := by
        show Nat.testBit _ i = false
        rw [hm]
        rw [Nat.testBit_two_pow_sub_one]
        exact decide_eq_false (by omega)
      rw [h4] at h3
      by_cases hi2 : i < 32
      · cases hb : y.toBitVec.getLsbD i with
        | false => exact hb
        | true => rw [hb] at h3; simp [hi2] at h3
      · exact Nat.testBit_lt_two_pow (Nat.lt_of_lt_of_le y.toBitVec.isLt (Nat.pow_le_pow_right (by omega) (by omega)))
    · intro h
      apply BitVec.eq_of_getLsbD_eq
      intro i hi
      simp only [BitVec.getLsbD_and, BitVec.getLsbD_not, BitVec.getLsbD_zero]
      have h4 : (Int32.ofNat (2 ^ T.toNat - 1)).toBitVec.getLsbD i = decide (i < T.toNat) := by
        show Nat.testBit _ i = _
        rw [hm, Nat.testBit_two_pow_sub_one]
      rw [h4]
      by_cases hi2 : i < T.toNat
      · simp [hi2]
      · have : y.toBitVec.getLsbD i = false := Nat.testBit_lt_two_pow (Nat.lt_of_lt_of_le h (Nat.pow_le_pow_right (by omega) (by omega)))
        rw [this]; rfl
  rw [h2]
  have h5 : y.toInt = if 2 * y.toBitVec.toNat < 2 ^ 32 then (y.toBitVec.toNat : Int) else (y.toBitVec.toNat : Int) - ((2 ^ 32 : Nat) : Int) := BitVec.toInt_eq_toNat_cond y.toBitVec
  have h6 := y.toBitVec.isLt
  rw [h5]
  split <;> omega
theorem c_11 (hK : ax_K M) : am_Call d 11 [(2, 2)] M = some (am_w32 (am_shl 1 (am_rd M 2 5) - 1), M) := by
  rw [aq_11]
  simp (disch := first | assumption | omega) only [ax_gt, ax_gi, am_let, Option.bind_some, ax_gbl, ax_gb2, ax_gd, Int.reduceEq, Int.reduceNe, Int.reduceLT, Int.reduceLE, Int.reduceAdd, Int.reduceSub, Int.reduceMul, Int.reduceNeg, reduceIte, ite_true, ite_false, true_and, and_true, false_and, and_false, true_or, or_true, false_or, or_false, not_true_eq_false, not_false_eq_true, and_self, or_self, eq_self, ite_self, decide_true, decide_false, Bool.true_and, Bool.and_true, Bool.and_self, Bool.false_and, ax_rw, if_pos, if_neg, ax_o_2, kr_2_0, kr_2_1, kr_2_2, kr_2_3, kr_2_4, ax_a_3, ax_a_4, ax_a_5, ax_a_6, ax_a_7]
theorem c_108 {x : Int} (hK : ax_K M) (b : cg_B M) : am_Call d 108 [(2, 2), (0, x)] M = some (ax_b (0 ≤ am_w32 x ∧ am_w32 x < ((2 ^ (am_rd M 2 5).toNat : Nat) : Int)), M) := by
  obtain ⟨b1, b2, b3, b4, b5⟩ := b
  rw [aq_108]
  simp (disch := first | assumption | omega) only [ax_gt, ax_gi, am_let, Option.bind_some, ax_gbl, ax_gb2, ax_gd, Int.reduceEq, Int.reduceNe, Int.reduceLT, Int.reduceLE, Int.reduceAdd, Int.reduceSub, Int.reduceMul, Int.reduceNeg, reduceIte, ite_true, ite_false, true_and, and_true, false_and, and_false, true_or, or_true, false_or, or_false, not_true_eq_false, not_false_eq_true, and_self, or_self, eq_self, ite_self, decide_true, decide_false, Bool.true_and, Bool.and_true, Bool.and_self, Bool.false_and, ax_rw, if_pos, if_neg, ax_o_2, kr_2_0, kr_2_1, kr_2_2, kr_2_3, kr_2_4, ax_a_3, ax_a_4, ax_a_5, ax_a_6, ax_a_7, c_11, ax_low b1.1 b1.2]
  (unfold ax_b; (repeat' split) <;> first | rfl | (exfalso; omega))
theorem c_12 {x : Int} (hK : ax_K M) (b : cg_B M) : am_Call d 12 [(2, 2), (0, x)] M = some (ax_b (0 ≤ am_w32 x ∧ am_w32 x < ((2 ^ (am_rd M 2 7).toNat : Nat) : Int)), M) := by
  obtain ⟨b1, b2, b3, b4, b5⟩ := b
  rw [aq_12]
  simp (disch := first | assumption | omega) only [ax_gt, ax_gi, am_let, Option.bind_some, ax_gbl, ax_gb2, ax_gd, Int.reduceEq, Int.reduceNe, Int.reduceLT, Int.reduceLE, Int.reduceAdd, Int.reduceSub, Int.reduceMul, Int.reduceNeg, reduceIte, ite_true, ite_false, true_and, and_true, false_and, and_false, true_or, or_true, false_or, or_false, not_true_eq_false, not_false_eq_true, and_self, or_self, eq_self, ite_self, decide_true, decide_false, Bool.true_and, Bool.and_true, Bool.and_self, Bool.false_and, ax_rw, if_pos, if_neg, ax_o_2, kr_2_0, kr_2_1, kr_2_2, kr_2_3, kr_2_4, ax_a_3, ax_a_4, ax_a_5, ax_a_6, ax_a_7, ax_low b3.1 (by omega : am_rd M 2 7 ≤ 8)]
  (unfold ax_b; (repeat' split) <;> first | rfl | (exfalso; omega))
/-! telling -/
theorem c_13 {w : Int} (hK : ax_K M) (b : cg_B M) : am_Call d 13 [(2, 2), (0, w)] M = if am_rd M 2 5 = 8 then some (-1, M) else some (am_rd M 2 5, am_wr (am_wr (am_wr M 3 (am_rd M 2 5) w) 4 (am_rd M 2 5) 0) 2 5 (am_rd M 2 5 + 1)) := by
  obtain ⟨b1, b2, b3, b4, b5⟩ := b
  rw [aq_13]
  by_cases h : am_rd M 2 5 = 8
  · simp (disch := first | assumption | omega) only [ax_gt, ax_gi, am_let, Option.bind_some, ax_gbl, ax_gb2, ax_gd, Int.reduceEq, Int.reduceNe, Int.reduceLT, Int.reduceLE, Int.reduceAdd, Int.reduceSub, Int.reduceMul, Int.reduceNeg, reduceIte, ite_true, ite_false, true_and, and_true, false_and, and_false, true_or, or_true, false_or, or_false, not_true_eq_false, not_false_eq_true, and_self, or_self, eq_self, ite_self, decide_true, decide_false, Bool.true_and, Bool.and_true, Bool.and_self, Bool.false_and, ax_rw, if_pos, if_neg, ax_w32, ax_o_2, kr_2_0, kr_2_1, kr_2_2, kr_2_3, kr_2_4, ax_a_3, ax_a_4, ax_a_5, ax_a_6, ax_a_7]
  · simp (disch := first | assumption | omega) only [ax_gt, ax_gi, am_let, Option.bind_some, ax_gbl, ax_gb2, ax_gd, Int.reduceEq, Int.reduceNe, Int.reduceLT, Int.reduceLE, Int.reduceAdd, Int.reduceSub, Int.reduceMul, Int.reduceNeg, reduceIte, ite_true, ite_false, true_and, and_true, false_and, and_false, true_or, or_true, false_or, or_false, not_true_eq_false, not_false_eq_true, and_self, or_self, eq_self, ite_self, decide_true, decide_false, Bool.true_and, Bool.and_true, Bool.and_self, Bool.false_and, ax_rw, if_pos, if_neg, ax_w32, ax_o_2, kr_2_0, kr_2_1, kr_2_2, kr_2_3, kr_2_4, ax_a_3, ax_a_4, ax_a_5, ax_a_6, ax_a_7]
    simp only [Int.add_sub_cancel]
theorem c_14 {w : Int} (hK : ax_K M) (b : cg_B M) : am_Call d 14 [(2, 2), (0, w)] M = if am_rd M 2 6 = 6 then some (-1, M) else some (am_rd M 2 6, am_wr (am_wr M 5 (am_rd M 2 6) w) 2 6 (am_rd M 2 6 + 1)) := by
  obtain ⟨b1, b2, b3, b4, b5⟩ := b
  rw [aq_14]
  by_cases h : am_rd M 2 6 = 6
  · simp (disch := first | assumption | omega) only [ax_gt, ax_gi, am_let, Option.bind_some, ax_gbl, ax_gb2, ax_gd, Int.reduceEq, Int.reduceNe, Int.reduceLT, Int.reduceLE, Int.reduceAdd, Int.reduceSub, Int.reduceMul, Int.reduceNeg, reduceIte, ite_true, ite_false, true_and, and_true, false_and, and_false, true_or, or_true, false_or, or_false, not_true_eq_false, not_false_eq_true, and_self, or_self, eq_self, ite_self, decide_true, decide_false, Bool.true_and, Bool.and_true, Bool.and_self, Bool.false_and, ax_rw, if_pos, if_neg, ax_w32, ax_o_2, kr_2_0, kr_2_1, kr_2_2, kr_2_3, kr_2_4, ax_a_3, ax_a_4, ax_a_5, ax_a_6, ax_a_7]
  · simp (disch := first | assumption | omega) only [ax_gt, ax_gi, am_let, Option.bind_some, ax_gbl, ax_gb2, ax_gd, Int.reduceEq, Int.reduceNe, Int.reduceLT, Int.reduceLE, Int.reduceAdd, Int.reduceSub, Int.reduceMul, Int.reduceNeg, reduceIte, ite_true, ite_false, true_and, and_true, false_and, and_false, true_or, or_true, false_or, or_false, not_true_eq_false, not_false_eq_true, and_self, or_self, eq_self, ite_self, decide_true, decide_false, Bool.true_and, Bool.and_true, Bool.and_self, Bool.false_and, ax_rw, if_pos, if_neg, ax_w32, ax_o_2, kr_2_0, kr_2_1, kr_2_2, kr_2_3, kr_2_4, ax_a_3, ax_a_4, ax_a_5, ax_a_6, ax_a_7]
    simp only [Int.add_sub_cancel]
theorem c_15 {w : Int} (hK : ax_K M) (b : cg_B M) : am_Call d 15 [(2, 2), (0, w)] M = if am_rd M 2 7 = 6 then some (-1, M) else some (am_rd M 2 7, am_wr (am_wr M 6 (am_rd M 2 7) w) 2 7 (am_rd M 2 7 + 1)) := by
  obtain ⟨b1, b2, b3, b4, b5⟩ := b
  rw [aq_15]
  by_cases h : am_rd M 2 7 = 6
  · simp (disch := first | assumption | omega) only [ax_gt, ax_gi, am_let, Option.bind_some, ax_gbl, ax_gb2, ax_gd, Int.reduceEq, Int.reduceNe, Int.reduceLT, Int.reduceLE, Int.reduceAdd, Int.reduceSub, Int.reduceMul, Int.reduceNeg, reduceIte, ite_true, ite_false, true_and, and_true, false_and, and_false, true_or, or_true, false_or, or_false, not_true_eq_false, not_false_eq_true, and_self, or_self, eq_self, ite_self, decide_true, decide_false, Bool.true_and, Bool.and_true, Bool.and_self, Bool.false_and, ax_rw, if_pos, if_neg, ax_w32, ax_o_2, kr_2_0, kr_2_1, kr_2_2, kr_2_3, kr_2_4, ax_a_3, ax_a_4, ax_a_5, ax_a_6, ax_a_7]
  · simp (disch := first | assumption | omega) only [ax_gt, ax_gi, am_let, Option.bind_some, ax_gbl, ax_gb2, ax_gd, Int.reduceEq, Int.reduceNe, Int.reduceLT, Int.reduceLE, Int.reduceAdd, Int.reduceSub, Int.reduceMul, Int.reduceNeg, reduceIte, ite_true, ite_false, true_and, and_true, false_and, and_false, true_or, or_true, false_or, or_false, not_true_eq_false, not_false_eq_true, and_self, or_self, eq_self, ite_self, decide_true, decide_false, Bool.true_and, Bool.and_true, Bool.and_self, Bool.false_and, ax_rw, if_pos, if_neg, ax_w32, ax_o_2, kr_2_0, kr_2_1, kr_2_2, kr_2_3, kr_2_4, ax_a_3, ax_a_4, ax_a_5, ax_a_6, ax_a_7]
    simp only [Int.add_sub_cancel]
theorem c_109 {f t : Int} (hK : ax_K M) (b : cg_B M) : am_Call d 109 [(2, 2), (0, f), (0, t)] M = if ((0 ≤ f ∧ f < am_rd M 2 5) ∧ (0 ≤ t ∧ t < am_rd M 2 5)) ∧ ¬ f = t ∧ ¬ am_and (am_shr (am_rd M 4 f) t) 1 = 1 then some (1, am_wr M 4 f (am_or (am_rd M 4 f) (am_shl 1 t))) else some (0, M) := by
  have b' := b
  obtain ⟨b1, b2, b3, b4, b5⟩ := b'
  rw [aq_109]
  by_cases h1 : 0 ≤ f ∧ f < am_rd M 2 5
  · by_cases h2 : 0 ≤ t ∧ t < am_rd M 2 5
    · simp (disch := first | assumption | omega) only [ax_gt, ax_gi, am_let, Option.bind_some, ax_gbl, ax_gb2, ax_gd, Int.reduceEq, Int.reduceNe, Int.reduceLT, Int.reduceLE, Int.reduceAdd, Int.reduceSub, Int.reduceMul, Int.reduceNeg, reduceIte, ite_true, ite_false, true_and, and_true, false_and, and_false, true_or, or_true, false_or, or_false, not_true_eq_false, not_false_eq_true, and_self, or_self, eq_self, ite_self, decide_true, decide_false, Bool.true_and, Bool.and_true, Bool.and_self, Bool.false_and, ax_rw, if_pos, if_neg, ax_w32, ax_o_2, kr_2_0, kr_2_1, kr_2_2, kr_2_3, kr_2_4, ax_a_3, ax_a_4, ax_a_5, ax_a_6, ax_a_7, c_7, ax_b0, ax_a0]
      by_cases h3 : f = t
      · simp [h3]
      · by_cases h4 : am_and (am_shr (am_rd M 4 f) t) 1 = 1 <;> simp [h1, h2, h3, h4]
    · simp (disch := first | assumption | omega) only [ax_gt, ax_gi, am_let, Option.bind_some, ax_gbl, ax_gb2, ax_gd, Int.reduceEq, Int.reduceNe, Int.reduceLT, Int.reduceLE, Int.reduceAdd, Int.reduceSub, Int.reduceMul, Int.reduceNeg, reduceIte, ite_true, ite_false, true_and, and_true, false_and, and_false, true_or, or_true, false_or, or_false, not_true_eq_false, not_false_eq_true, and_self, or_self, eq_self, ite_self, decide_true, decide_false, Bool.true_and, Bool.and_true, Bool.and_self, Bool.false_and, ax_rw, if_pos, if_neg, ax_w32, ax_o_2, kr_2_0, kr_2_1, kr_2_2, kr_2_3, kr_2_4, ax_a_3, ax_a_4, ax_a_5, ax_a_6, ax_a_7, c_7, ax_b0, ax_a0]
  · simp (disch := first | assumption | omega) only [ax_gt, ax_gi, am_let, Option.bind_some, ax_gbl, ax_gb2, ax_gd, Int.reduceEq, Int.reduceNe, Int.reduceLT, Int.reduceLE, Int.reduceAdd, Int.reduceSub, Int.reduceMul, Int.reduceNeg, reduceIte, ite_true, ite_false, true_and, and_true, false_and, and_false, true_or, or_true, false_or, or_false, not_true_eq_false, not_false_eq_true, and_self, or_self, eq_self, ite_self, decide_true, decide_false, Bool.true_and, Bool.and_true, Bool.and_self, Bool.false_and, ax_rw, if_pos, if_neg, ax_w32, ax_o_2, kr_2_0, kr_2_1, kr_2_2, kr_2_3, kr_2_4, ax_a_3, ax_a_4, ax_a_5, ax_a_6, ax_a_7, c_7, ax_b0, ax_a0]
theorem c_110 {t : Int} (hK : ax_K M) (b : cg_B M) (h0 : 0 ≤ t) (h1 : t < am_rd M 2 5) : am_Call d 110 [(2, 2), (0, t)] M = some (am_rd M 3 t, M) := by
  have b' := b
  obtain ⟨b1, b2, b3, b4, b5⟩ := b'
  rw [aq_110]
  simp (disch := first | assumption | omega) only [ax_gt, ax_gi, am_let, Option.bind_some, ax_gbl, ax_gb2, ax_gd, Int.reduceEq, Int.reduceNe, Int.reduceLT, Int.reduceLE, Int.reduceAdd, Int.reduceSub, Int.reduceMul, Int.reduceNeg, reduceIte, ite_true, ite_false, true_and, and_true, false_and, and_false, true_or, or_true, false_or, or_false, not_true_eq_false, not_false_eq_true, and_self, or_self, eq_self, ite_self, decide_true, decide_false, Bool.true_and, Bool.and_true, Bool.and_self, Bool.false_and, ax_rw, if_pos, if_neg, ax_w32, ax_o_2, kr_2_0, kr_2_1, kr_2_2, kr_2_3, kr_2_4, ax_a_3, ax_a_4, ax_a_5, ax_a_6, ax_a_7, c_7, ax_b0]
theorem c_111 {t : Int} (hK : ax_K M) (b : cg_B M) (h0 : 0 ≤ t) (h1 : t < am_rd M 2 5) : am_Call d 111 [(2, 2), (0, t)] M = some (am_rd M 4 t, M) := by
  have b' := b
  obtain ⟨b1, b2, b3, b4, b5⟩ := b'
  rw [aq_111]
  simp (disch := first | assumption | omega) only [ax_gt, ax_gi, am_let, Option.bind_some, ax_gbl, ax_gb2, ax_gd, Int.reduceEq, Int.reduceNe, Int.reduceLT, Int.reduceLE, Int.reduceAdd, Int.reduceSub, Int.reduceMul, Int.reduceNeg, reduceIte, ite_true, ite_false, true_and, and_true, false_and, and_false, true_or, or_true, false_or, or_false, not_true_eq_false, not_false_eq_true, and_self, or_self, eq_self, ite_self, decide_true, decide_false, Bool.true_and, Bool.and_true, Bool.and_self, Bool.false_and, ax_rw, if_pos, if_neg, ax_w32, ax_o_2, kr_2_0, kr_2_1, kr_2_2, kr_2_3, kr_2_4, ax_a_3, ax_a_4, ax_a_5, ax_a_6, ax_a_7, c_7, ax_b0]
theorem c_112 {t : Int} (hK : ax_K M) (b : cg_B M) (h0 : 0 ≤ t) (h1 : t < am_rd M 2 6) : am_Call d 112 [(2, 2), (0, t)] M = some (am_rd M 5 t, M) := by
  have b' := b
  obtain ⟨b1, b2, b3, b4, b5⟩ := b'
  rw [aq_112]
  simp (disch := first | assumption | omega) only [ax_gt, ax_gi, am_let, Option.bind_some, ax_gbl, ax_gb2, ax_gd, Int.reduceEq, Int.reduceNe, Int.reduceLT, Int.reduceLE, Int.reduceAdd, Int.reduceSub, Int.reduceMul, Int.reduceNeg, reduceIte, ite_true, ite_false, true_and, and_true, false_and, and_false, true_or, or_true, false_or, or_false, not_true_eq_false, not_false_eq_true, and_self, or_self, eq_self, ite_self, decide_true, decide_false, Bool.true_and, Bool.and_true, Bool.and_self, Bool.false_and, ax_rw, if_pos, if_neg, ax_w32, ax_o_2, kr_2_0, kr_2_1, kr_2_2, kr_2_3, kr_2_4, ax_a_3, ax_a_4, ax_a_5, ax_a_6, ax_a_7, c_8, ax_b0]
theorem c_17 {i : Int} (hK : ax_K M) : am_Call d 17 [(2, 2), (0, i)] M = some (ax_b (am_and (am_shr (am_rd M 2 9) i) 1 = 1), M) := by
  rw [aq_17]
  simp (disch := first | assumption | omega) only [ax_gt, ax_gi, am_let, Option.bind_some, ax_gbl, ax_gb2, ax_gd, Int.reduceEq, Int.reduceNe, Int.reduceLT, Int.reduceLE, Int.reduceAdd, Int.reduceSub, Int.reduceMul, Int.reduceNeg, reduceIte, ite_true, ite_false, true_and, and_true, false_and, and_false, true_or, or_true, false_or, or_false, not_true_eq_false, not_false_eq_true, and_self, or_self, eq_self, ite_self, decide_true, decide_false, Bool.true_and, Bool.and_true, Bool.and_self, Bool.false_and, ax_rw, if_pos, if_neg, ax_o_2, kr_2_0, kr_2_1, kr_2_2, kr_2_3, kr_2_4, ax_a_3, ax_a_4, ax_a_5, ax_a_6, ax_a_7, ax_a0]
  (unfold ax_b; (repeat' split) <;> first | rfl | (exfalso; omega))
theorem c_18 {x : Int} (hK : ax_K M) (b : cg_B M) : am_Call d 18 [(2, 2), (0, x)] M = some (ax_fo (fun t s => am_w32 (s + am_w32 (am_and (am_shr x t) 1 * am_rd M 3 t))) (am_rd M 2 5 - 0).toNat 0 0, M) := by
  obtain ⟨b1, b2, b3, b4, b5⟩ := b
  rw [aq_18]
  refine ax_loop (X := fun k s => am_Ex d 18 5 [(2, 2), (0, x), (0, s), (0, k)] [] M) (E := fun s => some (s, M)) (n := am_rd M 2 5) (fun k _ => 0 ≤ k) ?_ ?_ _ _ _ (by omega) (by omega)
  · intro k a hk hl
    constructor
    · show am_Ex d 18 5 _ _ _ = _
      rw [aq_18_5]
      simp (disch := first | assumption | omega) only [ax_gt, ax_gi, am_let, Option.bind_some, ax_gbl, ax_gb2, ax_gd, Int.reduceEq, Int.reduceNe, Int.reduceLT, Int.reduceLE, Int.reduceAdd, Int.reduceSub, Int.reduceMul, Int.reduceNeg, reduceIte, ite_true, ite_false, true_and, and_true, false_and, and_false, true_or, or_true, false_or, or_false, not_true_eq_false, not_false_eq_true, and_self, or_self, eq_self, ite_self, decide_true, decide_false, Bool.true_and, Bool.and_true, Bool.and_self, Bool.false_and, ax_rw, if_pos, if_neg, ax_w32, ax_o_2, kr_2_0, kr_2_1, kr_2_2, kr_2_3, kr_2_4, ax_a_3, ax_a_4, ax_a_5, ax_a_6, ax_a_7]
    · omega
  · intro a ha
    show am_Ex d 18 5 _ _ _ = _
    rw [aq_18_5]
    simp (disch := first | assumption | omega) only [ax_gt, ax_gi, am_let, Option.bind_some, ax_gbl, ax_gb2, ax_gd, Int.reduceEq, Int.reduceNe, Int.reduceLT, Int.reduceLE, Int.reduceAdd, Int.reduceSub, Int.reduceMul, Int.reduceNeg, reduceIte, ite_true, ite_false, true_and, and_true, false_and, and_false, true_or, or_true, false_or, or_false, not_true_eq_false, not_false_eq_true, and_self, or_self, eq_self, ite_self, decide_true, decide_false, Bool.true_and, Bool.and_true, Bool.and_self, Bool.false_and, ax_rw, if_pos, if_neg, ax_w32, ax_o_2, kr_2_0, kr_2_1, kr_2_2, kr_2_3, kr_2_4, ax_a_3, ax_a_4, ax_a_5, ax_a_6, ax_a_7]
theorem c_19 {x : Int} (hK : ax_K M) (b : cg_B M) : am_Call d 19 [(2, 2), (0, x)] M = some (ax_fo (fun t s => am_or s (am_shl (am_and (am_shr (am_rd M 4 t) x) 1) t)) (am_rd M 2 5 - 0).toNat 0 0, M) := by
  obtain ⟨b1, b2, b3, b4, b5⟩ := b
  rw [aq_19]
  refine ax_loop (X := fun k s => am_Ex d 19 5 [(2, 2), (0, x), (0, s), (0, k)] [] M) (E := fun s => some (s, M)) (n := am_rd M 2 5) (fun k _ => 0 ≤ k) ?_ ?_ _ _ _ (by omega) (by omega)
  · intro k a hk hl
    constructor
    · show am_Ex d 19 5 _ _ _ = _
      rw [aq_19_5]
      simp (disch := first | assumption | omega) only [ax_gt, ax_gi, am_let, Option.bind_some, ax_gbl, ax_gb2, ax_gd, Int.reduceEq, Int.reduceNe, Int.reduceLT, Int.reduceLE, Int.reduceAdd, Int.reduceSub, Int.reduceMul, Int.reduceNeg, reduceIte, ite_true, ite_false, true_and, and_true, false_and, and_false, true_or, or_true, false_or, or_false, not_true_eq_false, not_false_eq_true, and_self, or_self, eq_self, ite_self, decide_true, decide_false, Bool.true_and, Bool.and_true, Bool.and_self, Bool.false_and, ax_rw, if_pos, if_neg, ax_w32, ax_o_2, kr_2_0, kr_2_1, kr_2_2, kr_2_3, kr_2_4, ax_a_3, ax_a_4, ax_a_5, ax_a_6, ax_a_7]
    · omega
  · intro a ha
    show am_Ex d 19 5 _ _ _ = _
    rw [aq_19_5]
    simp (disch := first | assumption | omega) only [ax_gt, ax_gi, am_let, Option.bind_some, ax_gbl, ax_gb2, ax_gd, Int.reduceEq, Int.reduceNe, Int.reduceLT, Int.reduceLE, Int.reduceAdd, Int.reduceSub, Int.reduceMul, Int.reduceNeg, reduceIte, ite_true, ite_false, true_and, and_true, false_and, and_false, true_or, or_true, false_or, or_false, not_true_eq_false, not_false_eq_true, and_self, or_self, eq_self, ite_self, decide_true, decide_false, Bool.true_and, Bool.and_true, Bool.and_self, Bool.false_and, ax_rw, if_pos, if_neg, ax_w32, ax_o_2, kr_2_0, kr_2_1, kr_2_2, kr_2_3, kr_2_4, ax_a_3, ax_a_4, ax_a_5, ax_a_6, ax_a_7]
theorem c_113 {x : Int} (hK : ax_K M) (b : cg_B M) : am_Call d 113 [(2, 2), (0, x)] M = some (ax_fo (fun i s => if ax_b (am_and (am_shr (am_rd M 2 9) i) 1 = 1) = x then am_or s (am_shl 1 (am_rd M 7 i)) else am_or s 0) (am_rd M 2 8 - 0).toNat 0 0, M) := by
  obtain ⟨b1, b2, b3, b4, b5⟩ := b
  rw [aq_113]
  refine ax_loop (X := fun k s => am_Ex d 113 5 [(2, 2), (0, x), (0, s), (0, k)] [] M) (E := fun s => some (s, M)) (n := am_rd M 2 8) (fun k _ => 0 ≤ k) ?_ ?_ _ _ _ (by omega) (by omega)
  · intro k a hk hl
    constructor
    · show am_Ex d 113 5 _ _ _ = _
      rw [aq_113_5]
      simp (disch := first | assumption | omega) only [ax_gt, ax_gi, am_let, Option.bind_some, ax_gbl, ax_gb2, ax_gd, Int.reduceEq, Int.reduceNe, Int.reduceLT, Int.reduceLE, Int.reduceAdd, Int.reduceSub, Int.reduceMul, Int.reduceNeg, reduceIte, ite_true, ite_false, true_and, and_true, false_and, and_false, true_or, or_true, false_or, or_false, not_true_eq_false, not_false_eq_true, and_self, or_self, eq_self, ite_self, decide_true, decide_false, Bool.true_and, Bool.and_true, Bool.and_self, Bool.false_and, ax_rw, if_pos, if_neg, ax_w32, ax_o_2, kr_2_0, kr_2_1, kr_2_2, kr_2_3, kr_2_4, ax_a_3, ax_a_4, ax_a_5, ax_a_6, ax_a_7, c_17]
      split <;> rfl
    · omega
  · intro a ha
    show am_Ex d 113 5 _ _ _ = _
    rw [aq_113_5]
    simp (disch := first | assumption | omega) only [ax_gt, ax_gi, am_let, Option.bind_some, ax_gbl, ax_gb2, ax_gd, Int.reduceEq, Int.reduceNe, Int.reduceLT, Int.reduceLE, Int.reduceAdd, Int.reduceSub, Int.reduceMul, Int.reduceNeg, reduceIte, ite_true, ite_false, true_and, and_true, false_and, and_false, true_or, or_true, false_or, or_false, not_true_eq_false, not_false_eq_true, and_self, or_self, eq_self, ite_self, decide_true, decide_false, Bool.true_and, Bool.and_true, Bool.and_self, Bool.false_and, ax_rw, if_pos, if_neg, ax_w32, ax_o_2, kr_2_0, kr_2_1, kr_2_2, kr_2_3, kr_2_4, ax_a_3, ax_a_4, ax_a_5, ax_a_6, ax_a_7]
theorem c_20 {x : Int} (hK : ax_K M) (b : cg_B M) : am_Call d 20 [(2, 2), (0, x)] M = some (ax_fo (fun _ s => ax_fo (fun t s => if am_and (am_shr s t) 1 = 1 then am_or s (am_rd M 4 t) else am_or s 0) (am_rd M 2 5 - 0).toNat 0 s) (am_rd M 2 5 - 0).toNat 0 (ax_fo (fun i s => if am_and (am_shr x i) 1 = 1 then am_or s (am_rd M 6 i) else am_or s 0) (am_rd M 2 7 - 0).toNat 0 0), M) := by
  obtain ⟨b1, b2, b3, b4, b5⟩ := b
  rw [aq_20]
  refine ax_loop (X := fun k s => am_Ex d 20 5 [(2, 2), (0, x), (0, s), (0, k), am_N] [] M) (E := fun s => some (ax_fo (fun _ s => ax_fo (fun t s => if am_and (am_shr s t) 1 = 1 then am_or s (am_rd M 4 t) else am_or s 0) (am_rd M 2 5 - 0).toNat 0 s) (am_rd M 2 5 - 0).toNat 0 s, M)) (n := am_rd M 2 7) (fun k _ => 0 ≤ k) ?_ ?_ _ _ _ (by omega) (by omega)
  · intro k a hk hl
    constructor
    · show am_Ex d 20 5 _ _ _ = _
      rw [aq_20_5]
      simp (disch := first | assumption | omega) only [ax_gt, ax_gi, am_let, Option.bind_some, ax_gbl, ax_gb2, ax_gd, Int.reduceEq, Int.reduceNe, Int.reduceLT, Int.reduceLE, Int.reduceAdd, Int.reduceSub, Int.reduceMul, Int.reduceNeg, reduceIte, ite_true, ite_false, true_and, and_true, false_and, and_false, true_or, or_true, false_or, or_false, not_true_eq_false, not_false_eq_true, and_self, or_self, eq_self, ite_self, decide_true, decide_false, Bool.true_and, Bool.and_true, Bool.and_self, Bool.false_and, ax_rw, if_pos, if_neg, ax_w32, ax_o_2, kr_2_0, kr_2_1, kr_2_2, kr_2_3, kr_2_4, ax_a_3, ax_a_4, ax_a_5, ax_a_6, ax_a_7, ax_a0, ite_not]
      split <;> rfl
    · omega
  · intro a ha
    show am_Ex d 20 5 _ _ _ = _
    rw [aq_20_5]
    simp (disch := first | assumption | omega) only [ax_gt, ax_gi, am_let, Option.bind_some, ax_gbl, ax_gb2, ax_gd, Int.reduceEq, Int.reduceNe, Int.reduceLT, Int.reduceLE, Int.reduceAdd, Int.reduceSub, Int.reduceMul, Int.reduceNeg, reduceIte, ite_true, ite_false, true_and, and_true, false_and, and_false, true_or, or_true, false_or, or_false, not_true_eq_false, not_false_eq_true, and_self, or_self, eq_self, ite_self, decide_true, decide_false, Bool.true_and, Bool.and_true, Bool.and_self, Bool.false_and, ax_rw, if_pos, if_neg, ax_w32, ax_o_2, kr_2_0, kr_2_1, kr_2_2, kr_2_3, kr_2_4, ax_a_3, ax_a_4, ax_a_5, ax_a_6, ax_a_7]
    rw [aq_20_30]
    refine ax_loop (X := fun k s => am_Ex d 20 33 [(2, 2), am_N, (0, s), (0, k), am_N] [] M) (E := fun s => some (s, M)) (n := am_rd M 2 5) (fun k _ => 0 ≤ k) ?_ ?_ _ _ _ (by omega) (by omega)
    · intro k a hk hl
      constructor
      · show am_Ex d 20 33 _ _ _ = _
        rw [aq_20_33]
        simp (disch := first | assumption | omega) only [ax_gt, ax_gi, am_let, Option.bind_some, ax_gbl, ax_gb2, ax_gd, Int.reduceEq, Int.reduceNe, Int.reduceLT, Int.reduceLE, Int.reduceAdd, Int.reduceSub, Int.reduceMul, Int.reduceNeg, reduceIte, ite_true, ite_false, true_and, and_true, false_and, and_false, true_or, or_true, false_or, or_false, not_true_eq_false, not_false_eq_true, and_self, or_self, eq_self, ite_self, decide_true, decide_false, Bool.true_and, Bool.and_true, Bool.and_self, Bool.false_and, ax_rw, if_pos, if_neg, ax_w32, ax_o_2, kr_2_0, kr_2_1, kr_2_2, kr_2_3, kr_2_4, ax_a_3, ax_a_4, ax_a_5, ax_a_6, ax_a_7]
        refine ax_loop (X := fun t s => am_Ex d 20 40 [(2, 2), am_N, (0, s), (0, k), (0, t)] [] M) (E := fun s => am_Ex d 20 33 [(2, 2), am_N, (0, s), (0, k + 1), am_N] [] M) (n := am_rd M 2 5) (fun t _ => 0 ≤ t) ?_ ?_ _ _ _ (by omega) (by omega)
        · intro t a ht htl
          constructor
          · show am_Ex d 20 40 _ _ _ = _
            rw [aq_20_40]
            simp (disch := first | assumption | omega) only [ax_gt, ax_gi, am_let, Option.bind_some, ax_gbl, ax_gb2, ax_gd, Int.reduceEq, Int.reduceNe, Int.reduceLT, Int.reduceLE, Int.reduceAdd, Int.reduceSub, Int.reduceMul, Int.reduceNeg, reduceIte, ite_true, ite_false, true_and, and_true, false_and, and_false, true_or, or_true, false_or, or_false, not_true_eq_false, not_false_eq_true, and_self, or_self, eq_self, ite_self, decide_true, decide_false, Bool.true_and, Bool.and_true, Bool.and_self, Bool.false_and, ax_rw, if_pos, if_neg, ax_w32, ax_o_2, kr_2_0, kr_2_1, kr_2_2, kr_2_3, kr_2_4, ax_a_3, ax_a_4, ax_a_5, ax_a_6, ax_a_7, ax_a0, ite_not]
            split <;> rfl
          · omega
        · intro a ha
          show am_Ex d 20 40 _ _ _ = _
          rw [aq_20_40]
          simp (disch := first | assumption | omega) only [ax_gt, ax_gi, am_let, Option.bind_some, ax_gbl, ax_gb2, ax_gd, Int.reduceEq, Int.reduceNe, Int.reduceLT, Int.reduceLE, Int.reduceAdd, Int.reduceSub, Int.reduceMul, Int.reduceNeg, reduceIte, ite_true, ite_false, true_and, and_true, false_and, and_false, true_or, or_true, false_or, or_false, not_true_eq_false, not_false_eq_true, and_self, or_self, eq_self, ite_self, decide_true, decide_false, Bool.true_and, Bool.and_true, Bool.and_self, Bool.false_and, ax_rw, if_pos, if_neg, ax_w32, ax_o_2, kr_2_0, kr_2_1, kr_2_2, kr_2_3, kr_2_4, ax_a_3, ax_a_4, ax_a_5, ax_a_6, ax_a_7]
          rw [aq_20_65]
          simp (disch := first | assumption | omega) only [ax_gt, ax_gi, am_let, Option.bind_some, ax_gbl, ax_gb2, ax_gd, Int.reduceEq, Int.reduceNe, Int.reduceLT, Int.reduceLE, Int.reduceAdd, Int.reduceSub, Int.reduceMul, Int.reduceNeg, reduceIte, ite_true, ite_false, true_and, and_true, false_and, and_false, true_or, or_true, false_or, or_false, not_true_eq_false, not_false_eq_true, and_self, or_self, eq_self, ite_self, decide_true, decide_false, Bool.true_and, Bool.and_true, Bool.and_self, Bool.false_and, ax_rw, if_pos, if_neg, ax_w32, ax_o_2, kr_2_0, kr_2_1, kr_2_2, kr_2_3, kr_2_4, ax_a_3, ax_a_4, ax_a_5, ax_a_6, ax_a_7]
      · omega
    · intro a ha
      show am_Ex d 20 33 _ _ _ = _
      rw [aq_20_33]
      simp (disch := first | assumption | omega) only [ax_gt, ax_gi, am_let, Option.bind_some, ax_gbl, ax_gb2, ax_gd, Int.reduceEq, Int.reduceNe, Int.reduceLT, Int.reduceLE, Int.reduceAdd, Int.reduceSub, Int.reduceMul, Int.reduceNeg, reduceIte, ite_true, ite_false, true_and, and_true, false_and, and_false, true_or, or_true, false_or, or_false, not_true_eq_false, not_false_eq_true, and_self, or_self, eq_self, ite_self, decide_true, decide_false, Bool.true_and, Bool.and_true, Bool.and_self, Bool.false_and, ax_rw, if_pos, if_neg, ax_w32, ax_o_2, kr_2_0, kr_2_1, kr_2_2, kr_2_3, kr_2_4, ax_a_3, ax_a_4, ax_a_5, ax_a_6, ax_a_7]
end
