/-! done -/
section
variable {M : am_M} {d : Nat}
theorem c_16 {t e : Int} (hK : ax_K M) (h0 : 0 ≤ am_rd M 2 8) (h1 : am_rd M 2 8 ≤ 8) : am_Call d 16 [(2, 2), (0, t), (0, e)] M = if am_rd M 2 8 = 8 then some (0, M) else some (1, am_wr (am_wr (am_wr M 7 (am_rd M 2 8) t) 2 9 (if e = 0 then am_and (am_rd M 2 9) (am_xor (am_shl 1 (am_rd M 2 8)) (-1)) else am_or (am_rd M 2 9) (am_shl 1 (am_rd M 2 8)))) 2 8 (am_rd M 2 8 + 1)) := by
  rw [aq_16]
  by_cases h8 : am_rd M 2 8 = 8
  · simp (disch := first | assumption | omega) only [ax_gt, ax_gi, Option.bind_some, ax_gbl, ax_gb2, ax_gd, Int.reduceEq, Int.reduceNe, Int.reduceLT, Int.reduceLE, Int.reduceAdd, Int.reduceSub, Int.reduceMul, Int.reduceNeg, reduceIte, ite_true, ite_false, true_and, and_true, false_and, and_false, true_or, or_true, false_or, or_false, not_true_eq_false, not_false_eq_true, and_self, or_self, eq_self, ite_self, decide_true, decide_false, Bool.true_and, Bool.and_true, Bool.and_self, Bool.false_and, Int.add_zero, Int.zero_add, ax_rw, if_pos, if_neg, ax_o_2, kr_2_0, kr_2_1, kr_2_2, kr_2_3, kr_2_4, ax_a_3, ax_a_4, ax_a_5, ax_a_6, ax_a_7, h8]
  · by_cases he : e = 0
    · simp (disch := first | assumption | omega) only [↓ax_let, ax_gt, ax_gi, Option.bind_some, ax_gbl, ax_gb2, ax_gd, Int.reduceEq, Int.reduceNe, Int.reduceLT, Int.reduceLE, Int.reduceAdd, Int.reduceSub, Int.reduceMul, Int.reduceNeg, reduceIte, ite_true, ite_false, true_and, and_true, false_and, and_false, true_or, or_true, false_or, or_false, not_true_eq_false, not_false_eq_true, and_self, or_self, eq_self, ite_self, decide_true, decide_false, Bool.true_and, Bool.and_true, Bool.and_self, Bool.false_and, Int.add_zero, Int.zero_add, ax_rw, if_pos, if_neg, ax_w32, ax_o_2, kr_2_0, kr_2_1, kr_2_2, kr_2_3, kr_2_4, ax_a_3, ax_a_4, ax_a_5, ax_a_6, ax_a_7]
    · simp (disch := first | assumption | omega) only [↓ax_let, ax_gt, ax_gi, Option.bind_some, ax_gbl, ax_gb2, ax_gd, Int.reduceEq, Int.reduceNe, Int.reduceLT, Int.reduceLE, Int.reduceAdd, Int.reduceSub, Int.reduceMul, Int.reduceNeg, reduceIte, ite_true, ite_false, true_and, and_true, false_and, and_false, true_or, or_true, false_or, or_false, not_true_eq_false, not_false_eq_true, and_self, or_self, eq_self, ite_self, decide_true, decide_false, Bool.true_and, Bool.and_true, Bool.and_self, Bool.false_and, Int.add_zero, Int.zero_add, ax_rw, if_pos, if_neg, ax_w32, ax_o_2, kr_2_0, kr_2_1, kr_2_2, kr_2_3, kr_2_4, ax_a_3, ax_a_4, ax_a_5, ax_a_6, ax_a_7]
theorem m_199s {t e : Int} (hK : ax_K M) (b : mb_B M) (h0 : ¬ t = -1) (h1 : 0 ≤ t ∧ t < am_rd M 448 0) (h2 : ¬ am_rd M 448 6 = 8) : am_Call d 199 [(2, 447), (0, t), (0, e)] M = some (am_rd M 448 6 + 1, am_wr (am_wr (am_wr M 448 (38 + 2 * am_rd M 448 6) t) 448 (39 + 2 * am_rd M 448 6) (if e = 0 then 0 else 1)) 448 6 (am_rd M 448 6 + 1)) := by
  have b' := b
  obtain ⟨b1, b2, b3, b4, b5⟩ := b'
  have q : ∀ d, am_Call d 143 [(2, 447), (0, t)] M = some (1, M) := fun d => by
    rw [m_143 hK b]; unfold ax_b; rw [if_pos h1]
  have w1 : am_w32 (38 + am_w32 (2 * am_rd M 448 6)) = 38 + 2 * am_rd M 448 6 := by
    rw [ax_w32 (x := 2 * am_rd M 448 6) (by omega) (by omega), ax_w32 (by omega) (by omega)]
  have w2 : am_w32 (38 + 2 * am_rd M 448 6 + 1) = 39 + 2 * am_rd M 448 6 := by
    rw [ax_w32 (by omega) (by omega)]; omega
  have w3 : am_w32 (am_rd M 448 6 + 1) = am_rd M 448 6 + 1 := ax_w32 (by omega) (by omega)
  have m0 : am_rd M 447 0 = 448 := kr_447_0 hK
  rw [aq_199, if_neg h0]
  rw [show am_ob 447 11 = true from rfl, ax_gt, q d, Option.bind_some]
  dsimp only []
  rw [if_neg (by decide : ¬ (1 : Int) = 0), m0, w1]
  by_cases he : e = 0
  · rw [if_pos he]
    simp only [if_pos he]
    simp (disch := first | assumption | omega) only [ax_gt, ax_gi, Option.bind_some, ax_gbl, ax_gb2, ax_gd, Int.reduceEq, Int.reduceNe, Int.reduceLT, Int.reduceLE, Int.reduceAdd, Int.reduceSub, Int.reduceMul, Int.reduceNeg, reduceIte, ite_true, ite_false, true_and, and_true, false_and, and_false, true_or, or_true, false_or, or_false, not_true_eq_false, not_false_eq_true, and_self, or_self, eq_self, ite_self, decide_true, decide_false, Bool.true_and, Bool.and_true, Bool.and_self, Bool.false_and, Int.add_zero, Int.zero_add, ax_rw, if_pos, if_neg, ax_o_447, ax_a_448, kr_447_0]
    rw [ax_let]
    simp (disch := first | assumption | omega) only [ax_gt, ax_gi, Option.bind_some, ax_gbl, ax_gb2, ax_gd, Int.reduceEq, Int.reduceNe, Int.reduceLT, Int.reduceLE, Int.reduceAdd, Int.reduceSub, Int.reduceMul, Int.reduceNeg, reduceIte, ite_true, ite_false, true_and, and_true, false_and, and_false, true_or, or_true, false_or, or_false, not_true_eq_false, not_false_eq_true, and_self, or_self, eq_self, ite_self, decide_true, decide_false, Bool.true_and, Bool.and_true, Bool.and_self, Bool.false_and, Int.add_zero, Int.zero_add, ax_rw, if_pos, if_neg, ax_o_447, ax_a_448, kr_447_0, w1, w2]
    rw [ax_let]
    simp (disch := first | assumption | omega) only [ax_gt, ax_gi, Option.bind_some, ax_gbl, ax_gb2, ax_gd, Int.reduceEq, Int.reduceNe, Int.reduceLT, Int.reduceLE, Int.reduceAdd, Int.reduceSub, Int.reduceMul, Int.reduceNeg, reduceIte, ite_true, ite_false, true_and, and_true, false_and, and_false, true_or, or_true, false_or, or_false, not_true_eq_false, not_false_eq_true, and_self, or_self, eq_self, ite_self, decide_true, decide_false, Bool.true_and, Bool.and_true, Bool.and_self, Bool.false_and, Int.add_zero, Int.zero_add, ax_rw, if_pos, if_neg, ax_o_447, ax_a_448, kr_447_0, w3]
    rw [ax_let]
    simp (disch := first | assumption | omega) only [ax_gt, ax_gi, Option.bind_some, ax_gbl, ax_gb2, ax_gd, Int.reduceEq, Int.reduceNe, Int.reduceLT, Int.reduceLE, Int.reduceAdd, Int.reduceSub, Int.reduceMul, Int.reduceNeg, reduceIte, ite_true, ite_false, true_and, and_true, false_and, and_false, true_or, or_true, false_or, or_false, not_true_eq_false, not_false_eq_true, and_self, or_self, eq_self, ite_self, decide_true, decide_false, Bool.true_and, Bool.and_true, Bool.and_self, Bool.false_and, Int.add_zero, Int.zero_add, ax_rw, if_pos, if_neg, ax_o_447, ax_a_448, kr_447_0]
  · rw [if_neg he]
    simp only [if_neg he]
    simp (disch := first | assumption | omega) only [ax_gt, ax_gi, Option.bind_some, ax_gbl, ax_gb2, ax_gd, Int.reduceEq, Int.reduceNe, Int.reduceLT, Int.reduceLE, Int.reduceAdd, Int.reduceSub, Int.reduceMul, Int.reduceNeg, reduceIte, ite_true, ite_false, true_and, and_true, false_and, and_false, true_or, or_true, false_or, or_false, not_true_eq_false, not_false_eq_true, and_self, or_self, eq_self, ite_self, decide_true, decide_false, Bool.true_and, Bool.and_true, Bool.and_self, Bool.false_and, Int.add_zero, Int.zero_add, ax_rw, if_pos, if_neg, ax_o_447, ax_a_448, kr_447_0]
    rw [ax_let]
    simp (disch := first | assumption | omega) only [ax_gt, ax_gi, Option.bind_some, ax_gbl, ax_gb2, ax_gd, Int.reduceEq, Int.reduceNe, Int.reduceLT, Int.reduceLE, Int.reduceAdd, Int.reduceSub, Int.reduceMul, Int.reduceNeg, reduceIte, ite_true, ite_false, true_and, and_true, false_and, and_false, true_or, or_true, false_or, or_false, not_true_eq_false, not_false_eq_true, and_self, or_self, eq_self, ite_self, decide_true, decide_false, Bool.true_and, Bool.and_true, Bool.and_self, Bool.false_and, Int.add_zero, Int.zero_add, ax_rw, if_pos, if_neg, ax_o_447, ax_a_448, kr_447_0, w1, w2]
    rw [ax_let]
    simp (disch := first | assumption | omega) only [ax_gt, ax_gi, Option.bind_some, ax_gbl, ax_gb2, ax_gd, Int.reduceEq, Int.reduceNe, Int.reduceLT, Int.reduceLE, Int.reduceAdd, Int.reduceSub, Int.reduceMul, Int.reduceNeg, reduceIte, ite_true, ite_false, true_and, and_true, false_and, and_false, true_or, or_true, false_or, or_false, not_true_eq_false, not_false_eq_true, and_self, or_self, eq_self, ite_self, decide_true, decide_false, Bool.true_and, Bool.and_true, Bool.and_self, Bool.false_and, Int.add_zero, Int.zero_add, ax_rw, if_pos, if_neg, ax_o_447, ax_a_448, kr_447_0, w3]
    rw [ax_let]
    simp (disch := first | assumption | omega) only [ax_gt, ax_gi, Option.bind_some, ax_gbl, ax_gb2, ax_gd, Int.reduceEq, Int.reduceNe, Int.reduceLT, Int.reduceLE, Int.reduceAdd, Int.reduceSub, Int.reduceMul, Int.reduceNeg, reduceIte, ite_true, ite_false, true_and, and_true, false_and, and_false, true_or, or_true, false_or, or_false, not_true_eq_false, not_false_eq_true, and_self, or_self, eq_self, ite_self, decide_true, decide_false, Bool.true_and, Bool.and_true, Bool.and_self, Bool.false_and, Int.add_zero, Int.zero_add, ax_rw, if_pos, if_neg, ax_o_447, ax_a_448, kr_447_0]
theorem m_199n {t e : Int} (hK : ax_K M) (b : mb_B M) (h0 : ¬ t = -1) (h1 : ¬ (0 ≤ t ∧ t < am_rd M 448 0) ∨ am_rd M 448 6 = 8) : am_Call d 199 [(2, 447), (0, t), (0, e)] M = some (-2, M) := by
  have m0 : am_rd M 447 0 = 448 := kr_447_0 hK
  rw [aq_199, if_neg h0]
  rw [show am_ob 447 11 = true from rfl, ax_gt, m_143 hK b, Option.bind_some]
  dsimp only []
  by_cases h2 : 0 ≤ t ∧ t < am_rd M 448 0
  · have h3 : am_rd M 448 6 = 8 := by omega
    rw [if_neg (by rw [ax_b0]; exact fun h => h h2), m0]
    rw [if_pos h3]
    simp (disch := first | assumption | omega) only [ax_gt, ax_gi, Option.bind_some, ax_gbl, ax_gb2, ax_gd, Int.reduceEq, Int.reduceNe, Int.reduceLT, Int.reduceLE, Int.reduceAdd, Int.reduceSub, Int.reduceMul, Int.reduceNeg, reduceIte, ite_true, ite_false, true_and, and_true, false_and, and_false, true_or, or_true, false_or, or_false, not_true_eq_false, not_false_eq_true, and_self, or_self, eq_self, ite_self, decide_true, decide_false, Bool.true_and, Bool.and_true, Bool.and_self, Bool.false_and, Int.add_zero, Int.zero_add, ax_a_448, kr_447_0]
  · rw [if_pos (by rw [ax_b0]; exact h2)]
theorem m_199 {t e : Int} (hK : ax_K M) (b : mb_B M) : am_Call d 199 [(2, 447), (0, t), (0, e)] M = if t = -1 then some (0, am_wr M 448 6 0) else if ¬ (0 ≤ t ∧ t < am_rd M 448 0) ∨ am_rd M 448 6 = 8 then some (-2, M) else some (am_rd M 448 6 + 1, am_wr (am_wr (am_wr M 448 (38 + 2 * am_rd M 448 6) t) 448 (39 + 2 * am_rd M 448 6) (if e = 0 then 0 else 1)) 448 6 (am_rd M 448 6 + 1)) := by
  by_cases h0 : t = -1
  · rw [aq_199, if_pos h0, if_pos h0]
    simp (disch := first | assumption | omega) only [↓ax_let, ax_gt, ax_gi, Option.bind_some, ax_gbl, ax_gb2, ax_gd, Int.reduceEq, Int.reduceNe, Int.reduceLT, Int.reduceLE, Int.reduceAdd, Int.reduceSub, Int.reduceMul, Int.reduceNeg, reduceIte, ite_true, ite_false, true_and, and_true, false_and, and_false, true_or, or_true, false_or, or_false, not_true_eq_false, not_false_eq_true, and_self, or_self, eq_self, ite_self, decide_true, decide_false, Bool.true_and, Bool.and_true, Bool.and_self, Bool.false_and, Int.add_zero, Int.zero_add, ax_rw, if_pos, if_neg, ax_o_447, ax_a_448, kr_447_0]
  · rw [if_neg h0]
    by_cases h1 : ¬ (0 ≤ t ∧ t < am_rd M 448 0) ∨ am_rd M 448 6 = 8
    · rw [if_pos h1]; exact m_199n hK b h0 h1
    · rw [if_neg h1]; exact m_199s hK b h0 (Decidable.not_not.mp fun h => h1 (Or.inl h)) fun h => h1 (Or.inr h)
theorem op_done (a : RR M) {t e : Int} : OP d M 140 199 [(0, t), (0, e)] := by
  have hK := a.1
  have gB := RR_gB a
  have mB := RR_mB a
  have aa := a
  obtain ⟨-, ⟨⟨⟨g1, g2, g3, g4, g5, g6, g7⟩, g8, g9, g10, g11, g12, g13, g14⟩, ⟨⟨b1, b2, b3, b4, b5, b6, b7, b8⟩, b9, b10, b11, b12, b13, b14⟩, -, -⟩, -, -, -⟩ := aa
  simp only [Int.reduceEq, Int.reduceNe, Int.reduceLT, Int.reduceLE, Int.reduceAdd, Int.reduceSub, Int.reduceMul, Int.reduceNeg, reduceIte, ite_true, ite_false, true_and, and_true, false_and, and_false, true_or, or_true, false_or, or_false, not_true_eq_false, not_false_eq_true, and_self, or_self, eq_self, ite_self, decide_true, decide_false, Bool.true_and, Bool.and_true, Bool.and_self, Bool.false_and, Int.add_zero, Int.zero_add] at g8 g9 g10 g11 g12
  have e7 := fun d => c_7 (d := d) (t := t) hK gB
  have e16 := fun d => c_16 (d := d) (t := t) (e := e) hK (by omega) (by omega)
  rw [g1] at e7
  rw [g6] at e16
  by_cases h0 : t = -1
  · refine ⟨0, am_wr M 2 8 0, am_wr (am_wr M 2 8 0) 448 6 0, ?_, ?_, RR_one a (Or.inr (Or.inr ⟨rfl, rfl, rfl⟩))⟩
    · rw [aq_140]; simp (disch := first | assumption | omega) only [↓ax_let, ax_gt, ax_gi, Option.bind_some, ax_gbl, ax_gb2, ax_gd, Int.reduceEq, Int.reduceNe, Int.reduceLT, Int.reduceLE, Int.reduceAdd, Int.reduceSub, Int.reduceMul, Int.reduceNeg, reduceIte, ite_true, ite_false, true_and, and_true, false_and, and_false, true_or, or_true, false_or, or_false, not_true_eq_false, not_false_eq_true, and_self, or_self, eq_self, ite_self, decide_true, decide_false, Bool.true_and, Bool.and_true, Bool.and_self, Bool.false_and, Int.add_zero, Int.zero_add, ax_rw, if_pos, if_neg, ax_o_1, kr_1_0, kr_1_1, kr_1_2, kr_1_3, kr_1_4, kr_1_5, kr_1_6, kr_1_7, kr_1_9, kr_1_10, kr_1_11, kr_1_12, kr_1_13, kr_1_14, ax_a_419, ax_o_2, kr_2_0, kr_2_1, kr_2_2, kr_2_3, kr_2_4, ax_a_3, ax_a_4, ax_a_5, ax_a_6, ax_a_7, h0]
    · have K1 : ax_K (am_wr M 2 8 0) := ax_Kw hK rfl
      have mB1 : mb_B (am_wr M 2 8 0) := mB
      rw [m_199 K1 mB1, if_pos h0]
  · generalize hD : am_rd M 448 6 = D at *
    by_cases h1 : 0 ≤ t ∧ t < am_rd M 448 0
    · by_cases h2 : D = 8
      · refine ⟨-2, M, M, ?_, ?_, a⟩
        · rw [aq_140]; simp (disch := first | assumption | omega) only [ax_gt, ax_gi, Option.bind_some, ax_gbl, ax_gb2, ax_gd, Int.reduceEq, Int.reduceNe, Int.reduceLT, Int.reduceLE, Int.reduceAdd, Int.reduceSub, Int.reduceMul, Int.reduceNeg, reduceIte, ite_true, ite_false, true_and, and_true, false_and, and_false, true_or, or_true, false_or, or_false, not_true_eq_false, not_false_eq_true, and_self, or_self, eq_self, ite_self, decide_true, decide_false, Bool.true_and, Bool.and_true, Bool.and_self, Bool.false_and, Int.add_zero, Int.zero_add, ax_rw, if_pos, if_neg, ax_o_1, kr_1_0, kr_1_1, kr_1_2, kr_1_3, kr_1_4, kr_1_5, kr_1_6, kr_1_7, kr_1_9, kr_1_10, kr_1_11, kr_1_12, kr_1_13, kr_1_14, ax_a_419, ax_o_2, kr_2_0, kr_2_1, kr_2_2, kr_2_3, kr_2_4, ax_a_3, ax_a_4, ax_a_5, ax_a_6, ax_a_7, e7, e16, ax_b0, h0, h1, h2]
        · rw [m_199 hK mB, if_neg h0, hD, if_pos (Or.inr h2)]
      · generalize hy : (if e = 0 then am_and (am_rd M 2 9) (am_xor (am_shl 1 D) (-1)) else am_or (am_rd M 2 9) (am_shl 1 D)) = y at *
        have hd : ∀ j, 0 ≤ j → j < 8 → am_and (am_shr y j) 1 = (if j = D then (if e = 0 then 0 else 1) else am_and (am_shr (am_rd M 2 9) j) 1) := by
          intro j j0 j1
          obtain ⟨d1, d2, -, -⟩ := dn (x := am_rd M 2 9) (D := D) (j := j) g14.1 g14.2 (by omega) (by omega) j0 j1
          rw [← hy]
          by_cases he : e = 0
          · rw [if_pos he, d2, if_pos he]
          · rw [if_neg he, d1, if_neg he]
        have hr : 0 ≤ y ∧ y < 256 := by
          obtain ⟨-, -, d3, d4⟩ := dn (x := am_rd M 2 9) (D := D) (j := 0) g14.1 g14.2 (by omega) (by omega) (by omega) (by omega)
          rw [← hy]
          by_cases he : e = 0
          · rw [if_pos he]; exact ⟨d3, d4⟩
          · rw [if_neg he]
            have h3 : (2 ^ D.toNat : Nat) < 2 ^ 8 := Nat.pow_lt_pow_right (by omega) (by omega)
            rw [ax_shl1 (by omega) (by omega)]
            generalize (2 ^ D.toNat : Nat) = u at *
            rw [ax_or_nn g14.1 (by omega) (by omega) (by omega), Int.toNat_natCast]
            have h4 := Nat.or_lt_two_pow (n := 8) (show (am_rd M 2 9).toNat < 2 ^ 8 by omega) h3
            omega
        have K1 : ax_K (am_wr (am_wr (am_wr M 7 D t) 2 9 y) 2 8 (D + 1)) := ax_Kw (ax_Kw (ax_Kw hK rfl) rfl) rfl
        have mB1 : mb_B (am_wr (am_wr (am_wr M 7 D t) 2 9 y) 2 8 (D + 1)) := mB
        refine ⟨D + 1, am_wr (am_wr (am_wr M 7 D t) 2 9 y) 2 8 (D + 1), am_wr (am_wr (am_wr (am_wr (am_wr (am_wr M 7 D t) 2 9 y) 2 8 (D + 1)) 448 (38 + 2 * D) t) 448 (39 + 2 * D) (if e = 0 then 0 else 1)) 448 6 (D + 1), ?_, ?_, ?_⟩
        · rw [aq_140]; simp (disch := first | assumption | omega) only [ax_gt, ax_gi, Option.bind_some, ax_gbl, ax_gb2, ax_gd, Int.reduceEq, Int.reduceNe, Int.reduceLT, Int.reduceLE, Int.reduceAdd, Int.reduceSub, Int.reduceMul, Int.reduceNeg, reduceIte, ite_true, ite_false, true_and, and_true, false_and, and_false, true_or, or_true, false_or, or_false, not_true_eq_false, not_false_eq_true, and_self, or_self, eq_self, ite_self, decide_true, decide_false, Bool.true_and, Bool.and_true, Bool.and_self, Bool.false_and, Int.add_zero, Int.zero_add, ax_rw, if_pos, if_neg, ax_o_1, kr_1_0, kr_1_1, kr_1_2, kr_1_3, kr_1_4, kr_1_5, kr_1_6, kr_1_7, kr_1_9, kr_1_10, kr_1_11, kr_1_12, kr_1_13, kr_1_14, ax_a_419, ax_o_2, kr_2_0, kr_2_1, kr_2_2, kr_2_3, kr_2_4, ax_a_3, ax_a_4, ax_a_5, ax_a_6, ax_a_7, e7, e16, ax_b0, h0, h1, h2]
        · rw [m_199 K1 mB1]
          simp (disch := first | assumption | omega) only [Int.reduceEq, Int.reduceNe, Int.reduceLT, Int.reduceLE, Int.reduceAdd, Int.reduceSub, Int.reduceMul, Int.reduceNeg, reduceIte, ite_true, ite_false, true_and, and_true, false_and, and_false, true_or, or_true, false_or, or_false, not_true_eq_false, not_false_eq_true, and_self, or_self, eq_self, ite_self, decide_true, decide_false, Bool.true_and, Bool.and_true, Bool.and_self, Bool.false_and, Int.add_zero, Int.zero_add, ax_rw, if_pos, if_neg, hD]
        · refine RR_guild a (ax_Kw (ax_Kw (ax_Kw K1 rfl) rfl) rfl) ⟨⟨?_, ?_, ?_, ?_, ?_, ?_, ?_⟩, ?_, ?_, ?_, ?_, ?_, ?_, ?_⟩ ⟨?_, ?_, ?_, ?_, ?_, ?_, ?_⟩ ?_ ?_ ?_ ?_ ?_ ?_
          · simp (disch := first | assumption | omega) only [Int.reduceEq, Int.reduceNe, Int.reduceLT, Int.reduceLE, Int.reduceAdd, Int.reduceSub, Int.reduceMul, Int.reduceNeg, reduceIte, ite_true, ite_false, true_and, and_true, false_and, and_false, true_or, or_true, false_or, or_false, not_true_eq_false, not_false_eq_true, and_self, or_self, eq_self, ite_self, decide_true, decide_false, Bool.true_and, Bool.and_true, Bool.and_self, Bool.false_and, Int.add_zero, Int.zero_add, ax_rw, if_pos, if_neg, g1]
          · simp (disch := first | assumption | omega) only [Int.reduceEq, Int.reduceNe, Int.reduceLT, Int.reduceLE, Int.reduceAdd, Int.reduceSub, Int.reduceMul, Int.reduceNeg, reduceIte, ite_true, ite_false, true_and, and_true, false_and, and_false, true_or, or_true, false_or, or_false, not_true_eq_false, not_false_eq_true, and_self, or_self, eq_self, ite_self, decide_true, decide_false, Bool.true_and, Bool.and_true, Bool.and_self, Bool.false_and, Int.add_zero, Int.zero_add, ax_rw, if_pos, if_neg, g2]
          · simp (disch := first | assumption | omega) only [Int.reduceEq, Int.reduceNe, Int.reduceLT, Int.reduceLE, Int.reduceAdd, Int.reduceSub, Int.reduceMul, Int.reduceNeg, reduceIte, ite_true, ite_false, true_and, and_true, false_and, and_false, true_or, or_true, false_or, or_false, not_true_eq_false, not_false_eq_true, and_self, or_self, eq_self, ite_self, decide_true, decide_false, Bool.true_and, Bool.and_true, Bool.and_self, Bool.false_and, Int.add_zero, Int.zero_add, ax_rw, if_pos, if_neg, g3]
          · simp (disch := first | assumption | omega) only [Int.reduceEq, Int.reduceNe, Int.reduceLT, Int.reduceLE, Int.reduceAdd, Int.reduceSub, Int.reduceMul, Int.reduceNeg, reduceIte, ite_true, ite_false, true_and, and_true, false_and, and_false, true_or, or_true, false_or, or_false, not_true_eq_false, not_false_eq_true, and_self, or_self, eq_self, ite_self, decide_true, decide_false, Bool.true_and, Bool.and_true, Bool.and_self, Bool.false_and, Int.add_zero, Int.zero_add, ax_rw, if_pos, if_neg, g4]
          · simp (disch := first | assumption | omega) only [Int.reduceEq, Int.reduceNe, Int.reduceLT, Int.reduceLE, Int.reduceAdd, Int.reduceSub, Int.reduceMul, Int.reduceNeg, reduceIte, ite_true, ite_false, true_and, and_true, false_and, and_false, true_or, or_true, false_or, or_false, not_true_eq_false, not_false_eq_true, and_self, or_self, eq_self, ite_self, decide_true, decide_false, Bool.true_and, Bool.and_true, Bool.and_self, Bool.false_and, Int.add_zero, Int.zero_add, ax_rw, if_pos, if_neg, g5]
          · simp (disch := first | assumption | omega) only [Int.reduceEq, Int.reduceNe, Int.reduceLT, Int.reduceLE, Int.reduceAdd, Int.reduceSub, Int.reduceMul, Int.reduceNeg, reduceIte, ite_true, ite_false, true_and, and_true, false_and, and_false, true_or, or_true, false_or, or_false, not_true_eq_false, not_false_eq_true, and_self, or_self, eq_self, ite_self, decide_true, decide_false, Bool.true_and, Bool.and_true, Bool.and_self, Bool.false_and, Int.add_zero, Int.zero_add, ax_rw, if_pos, if_neg]
          · simp (disch := first | assumption | omega) only [Int.reduceEq, Int.reduceNe, Int.reduceLT, Int.reduceLE, Int.reduceAdd, Int.reduceSub, Int.reduceMul, Int.reduceNeg, reduceIte, ite_true, ite_false, true_and, and_true, false_and, and_false, true_or, or_true, false_or, or_false, not_true_eq_false, not_false_eq_true, and_self, or_self, eq_self, ite_self, decide_true, decide_false, Bool.true_and, Bool.and_true, Bool.and_self, Bool.false_and, Int.add_zero, Int.zero_add, ax_rw, if_pos, if_neg, g7]
          · intro j j0 j1
            simp (disch := first | assumption | omega) only [Int.reduceEq, Int.reduceNe, Int.reduceLT, Int.reduceLE, Int.reduceAdd, Int.reduceSub, Int.reduceMul, Int.reduceNeg, reduceIte, ite_true, ite_false, true_and, and_true, false_and, and_false, true_or, or_true, false_or, or_false, not_true_eq_false, not_false_eq_true, and_self, or_self, eq_self, ite_self, decide_true, decide_false, Bool.true_and, Bool.and_true, Bool.and_self, Bool.false_and, Int.add_zero, Int.zero_add, ax_rw, if_pos, if_neg, g8]
          · intro j j0 j1
            simp (disch := first | assumption | omega) only [Int.reduceEq, Int.reduceNe, Int.reduceLT, Int.reduceLE, Int.reduceAdd, Int.reduceSub, Int.reduceMul, Int.reduceNeg, reduceIte, ite_true, ite_false, true_and, and_true, false_and, and_false, true_or, or_true, false_or, or_false, not_true_eq_false, not_false_eq_true, and_self, or_self, eq_self, ite_self, decide_true, decide_false, Bool.true_and, Bool.and_true, Bool.and_self, Bool.false_and, Int.add_zero, Int.zero_add, ax_rw, if_pos, if_neg, g9]
          · intro j j0 j1
            simp (disch := first | assumption | omega) only [Int.reduceEq, Int.reduceNe, Int.reduceLT, Int.reduceLE, Int.reduceAdd, Int.reduceSub, Int.reduceMul, Int.reduceNeg, reduceIte, ite_true, ite_false, true_and, and_true, false_and, and_false, true_or, or_true, false_or, or_false, not_true_eq_false, not_false_eq_true, and_self, or_self, eq_self, ite_self, decide_true, decide_false, Bool.true_and, Bool.and_true, Bool.and_self, Bool.false_and, Int.add_zero, Int.zero_add, ax_rw, if_pos, if_neg, g10]
          · intro j j0 j1
            simp (disch := first | assumption | omega) only [Int.reduceEq, Int.reduceNe, Int.reduceLT, Int.reduceLE, Int.reduceAdd, Int.reduceSub, Int.reduceMul, Int.reduceNeg, reduceIte, ite_true, ite_false, true_and, and_true, false_and, and_false, true_or, or_true, false_or, or_false, not_true_eq_false, not_false_eq_true, and_self, or_self, eq_self, ite_self, decide_true, decide_false, Bool.true_and, Bool.and_true, Bool.and_self, Bool.false_and, Int.add_zero, Int.zero_add, ax_rw, if_pos, if_neg, g11]
          · intro j j0 j1
            by_cases e : j = D <;> simp (disch := first | assumption | omega) only [Int.reduceEq, Int.reduceNe, Int.reduceLT, Int.reduceLE, Int.reduceAdd, Int.reduceSub, Int.reduceMul, Int.reduceNeg, reduceIte, ite_true, ite_false, true_and, and_true, false_and, and_false, true_or, or_true, false_or, or_false, not_true_eq_false, not_false_eq_true, and_self, or_self, eq_self, ite_self, decide_true, decide_false, Bool.true_and, Bool.and_true, Bool.and_self, Bool.false_and, Int.add_zero, Int.zero_add, ax_rw, if_pos, if_neg, g12]
          · intro j j0 j1
            by_cases e : j = D
            · simp (disch := first | assumption | omega) only [Int.reduceEq, Int.reduceNe, Int.reduceLT, Int.reduceLE, Int.reduceAdd, Int.reduceSub, Int.reduceMul, Int.reduceNeg, reduceIte, ite_true, ite_false, true_and, and_true, false_and, and_false, true_or, or_true, false_or, or_false, not_true_eq_false, not_false_eq_true, and_self, or_self, eq_self, ite_self, decide_true, decide_false, Bool.true_and, Bool.and_true, Bool.and_self, Bool.false_and, Int.add_zero, Int.zero_add, ax_rw, if_pos, if_neg]
              rw [hd j j0 j1, if_pos e]
            · simp (disch := first | assumption | omega) only [Int.reduceEq, Int.reduceNe, Int.reduceLT, Int.reduceLE, Int.reduceAdd, Int.reduceSub, Int.reduceMul, Int.reduceNeg, reduceIte, ite_true, ite_false, true_and, and_true, false_and, and_false, true_or, or_true, false_or, or_false, not_true_eq_false, not_false_eq_true, and_self, or_self, eq_self, ite_self, decide_true, decide_false, Bool.true_and, Bool.and_true, Bool.and_self, Bool.false_and, Int.add_zero, Int.zero_add, ax_rw, if_pos, if_neg]
              rw [hd j j0 j1, if_neg e]
              exact g13 j j0 j1
          · simp (disch := first | assumption | omega) only [Int.reduceEq, Int.reduceNe, Int.reduceLT, Int.reduceLE, Int.reduceAdd, Int.reduceSub, Int.reduceMul, Int.reduceNeg, reduceIte, ite_true, ite_false, true_and, and_true, false_and, and_false, true_or, or_true, false_or, or_false, not_true_eq_false, not_false_eq_true, and_self, or_self, eq_self, ite_self, decide_true, decide_false, Bool.true_and, Bool.and_true, Bool.and_self, Bool.false_and, Int.add_zero, Int.zero_add, ax_rw, if_pos, if_neg]
            exact hr
          · simp (disch := first | assumption | omega) only [Int.reduceEq, Int.reduceNe, Int.reduceLT, Int.reduceLE, Int.reduceAdd, Int.reduceSub, Int.reduceMul, Int.reduceNeg, reduceIte, ite_true, ite_false, true_and, and_true, false_and, and_false, true_or, or_true, false_or, or_false, not_true_eq_false, not_false_eq_true, and_self, or_self, eq_self, ite_self, decide_true, decide_false, Bool.true_and, Bool.and_true, Bool.and_self, Bool.false_and, Int.add_zero, Int.zero_add, ax_rw, if_pos, if_neg]
            exact ⟨b1, b2, b3, b4, b5, b6, by omega, b8⟩
          · intro j j0 j1
            simp (disch := first | assumption | omega) only [Int.reduceEq, Int.reduceNe, Int.reduceLT, Int.reduceLE, Int.reduceAdd, Int.reduceSub, Int.reduceMul, Int.reduceNeg, reduceIte, ite_true, ite_false, true_and, and_true, false_and, and_false, true_or, or_true, false_or, or_false, not_true_eq_false, not_false_eq_true, and_self, or_self, eq_self, ite_self, decide_true, decide_false, Bool.true_and, Bool.and_true, Bool.and_self, Bool.false_and, Int.add_zero, Int.zero_add, ax_rw, if_pos, if_neg]
            exact b9 j j0 j1
          · intro j j0 j1
            simp (disch := first | assumption | omega) only [Int.reduceEq, Int.reduceNe, Int.reduceLT, Int.reduceLE, Int.reduceAdd, Int.reduceSub, Int.reduceMul, Int.reduceNeg, reduceIte, ite_true, ite_false, true_and, and_true, false_and, and_false, true_or, or_true, false_or, or_false, not_true_eq_false, not_false_eq_true, and_self, or_self, eq_self, ite_self, decide_true, decide_false, Bool.true_and, Bool.and_true, Bool.and_self, Bool.false_and, Int.add_zero, Int.zero_add, ax_rw, if_pos, if_neg]
            exact b10 j j0 j1
          · simp (disch := first | assumption | omega) only [Int.reduceEq, Int.reduceNe, Int.reduceLT, Int.reduceLE, Int.reduceAdd, Int.reduceSub, Int.reduceMul, Int.reduceNeg, reduceIte, ite_true, ite_false, true_and, and_true, false_and, and_false, true_or, or_true, false_or, or_false, not_true_eq_false, not_false_eq_true, and_self, or_self, eq_self, ite_self, decide_true, decide_false, Bool.true_and, Bool.and_true, Bool.and_self, Bool.false_and, Int.add_zero, Int.zero_add, ax_rw, if_pos, if_neg]
            intro j h3 j0 j1
            simp (disch := first | assumption | omega) only [Int.reduceEq, Int.reduceNe, Int.reduceLT, Int.reduceLE, Int.reduceAdd, Int.reduceSub, Int.reduceMul, Int.reduceNeg, reduceIte, ite_true, ite_false, true_and, and_true, false_and, and_false, true_or, or_true, false_or, or_false, not_true_eq_false, not_false_eq_true, and_self, or_self, eq_self, ite_self, decide_true, decide_false, Bool.true_and, Bool.and_true, Bool.and_self, Bool.false_and, Int.add_zero, Int.zero_add, ax_rw, if_pos, if_neg]
            exact b11 j h3 j0 j1
          · intro j j0 j1
            simp (disch := first | assumption | omega) only [Int.reduceEq, Int.reduceNe, Int.reduceLT, Int.reduceLE, Int.reduceAdd, Int.reduceSub, Int.reduceMul, Int.reduceNeg, reduceIte, ite_true, ite_false, true_and, and_true, false_and, and_false, true_or, or_true, false_or, or_false, not_true_eq_false, not_false_eq_true, and_self, or_self, eq_self, ite_self, decide_true, decide_false, Bool.true_and, Bool.and_true, Bool.and_self, Bool.false_and, Int.add_zero, Int.zero_add, ax_rw, if_pos, if_neg]
            exact b12 j j0 j1
          · intro j j0 j1
            simp (disch := first | assumption | omega) only [Int.reduceEq, Int.reduceNe, Int.reduceLT, Int.reduceLE, Int.reduceAdd, Int.reduceSub, Int.reduceMul, Int.reduceNeg, reduceIte, ite_true, ite_false, true_and, and_true, false_and, and_false, true_or, or_true, false_or, or_false, not_true_eq_false, not_false_eq_true, and_self, or_self, eq_self, ite_self, decide_true, decide_false, Bool.true_and, Bool.and_true, Bool.and_self, Bool.false_and, Int.add_zero, Int.zero_add, ax_rw, if_pos, if_neg]
            exact b13 j j0 j1
          · intro j j0 j1
            have := b14 j j0 j1
            by_cases e : j = D <;> simp (disch := first | assumption | omega) only [Int.reduceEq, Int.reduceNe, Int.reduceLT, Int.reduceLE, Int.reduceAdd, Int.reduceSub, Int.reduceMul, Int.reduceNeg, reduceIte, ite_true, ite_false, true_and, and_true, false_and, and_false, true_or, or_true, false_or, or_false, not_true_eq_false, not_false_eq_true, and_self, or_self, eq_self, ite_self, decide_true, decide_false, Bool.true_and, Bool.and_true, Bool.and_self, Bool.false_and, Int.add_zero, Int.zero_add, ax_rw, if_pos, if_neg] <;> omega
          · simp (disch := first | assumption | omega) only [Int.reduceEq, Int.reduceNe, Int.reduceLT, Int.reduceLE, Int.reduceAdd, Int.reduceSub, Int.reduceMul, Int.reduceNeg, reduceIte, ite_true, ite_false, true_and, and_true, false_and, and_false, true_or, or_true, false_or, or_false, not_true_eq_false, not_false_eq_true, and_self, or_self, eq_self, ite_self, decide_true, decide_false, Bool.true_and, Bool.and_true, Bool.and_self, Bool.false_and, Int.add_zero, Int.zero_add, ax_rw, if_pos, if_neg]; omega
          · simp (disch := first | assumption | omega) only [Int.reduceEq, Int.reduceNe, Int.reduceLT, Int.reduceLE, Int.reduceAdd, Int.reduceSub, Int.reduceMul, Int.reduceNeg, reduceIte, ite_true, ite_false, true_and, and_true, false_and, and_false, true_or, or_true, false_or, or_false, not_true_eq_false, not_false_eq_true, and_self, or_self, eq_self, ite_self, decide_true, decide_false, Bool.true_and, Bool.and_true, Bool.and_self, Bool.false_and, Int.add_zero, Int.zero_add, ax_rw, if_pos, if_neg]
          · intro x i h3 h4
            simp (disch := first | assumption | omega) only [Int.reduceEq, Int.reduceNe, Int.reduceLT, Int.reduceLE, Int.reduceAdd, Int.reduceSub, Int.reduceMul, Int.reduceNeg, reduceIte, ite_true, ite_false, true_and, and_true, false_and, and_false, true_or, or_true, false_or, or_false, not_true_eq_false, not_false_eq_true, and_self, or_self, eq_self, ite_self, decide_true, decide_false, Bool.true_and, Bool.and_true, Bool.and_self, Bool.false_and, Int.add_zero, Int.zero_add, ax_rw, if_pos, if_neg]
          · intro i h3
            simp (disch := first | assumption | omega) only [Int.reduceEq, Int.reduceNe, Int.reduceLT, Int.reduceLE, Int.reduceAdd, Int.reduceSub, Int.reduceMul, Int.reduceNeg, reduceIte, ite_true, ite_false, true_and, and_true, false_and, and_false, true_or, or_true, false_or, or_false, not_true_eq_false, not_false_eq_true, and_self, or_self, eq_self, ite_self, decide_true, decide_false, Bool.true_and, Bool.and_true, Bool.and_self, Bool.false_and, Int.add_zero, Int.zero_add, ax_rw, if_pos, if_neg]
          · simp (disch := first | assumption | omega) only [Int.reduceEq, Int.reduceNe, Int.reduceLT, Int.reduceLE, Int.reduceAdd, Int.reduceSub, Int.reduceMul, Int.reduceNeg, reduceIte, ite_true, ite_false, true_and, and_true, false_and, and_false, true_or, or_true, false_or, or_false, not_true_eq_false, not_false_eq_true, and_self, or_self, eq_self, ite_self, decide_true, decide_false, Bool.true_and, Bool.and_true, Bool.and_self, Bool.false_and, Int.add_zero, Int.zero_add, ax_rw, if_pos, if_neg]
          · simp (disch := first | assumption | omega) only [Int.reduceEq, Int.reduceNe, Int.reduceLT, Int.reduceLE, Int.reduceAdd, Int.reduceSub, Int.reduceMul, Int.reduceNeg, reduceIte, ite_true, ite_false, true_and, and_true, false_and, and_false, true_or, or_true, false_or, or_false, not_true_eq_false, not_false_eq_true, and_self, or_self, eq_self, ite_self, decide_true, decide_false, Bool.true_and, Bool.and_true, Bool.and_self, Bool.false_and, Int.add_zero, Int.zero_add, ax_rw, if_pos, if_neg]
    · refine ⟨-2, M, M, ?_, ?_, a⟩
      · rw [aq_140]; simp (disch := first | assumption | omega) only [ax_gt, ax_gi, Option.bind_some, ax_gbl, ax_gb2, ax_gd, Int.reduceEq, Int.reduceNe, Int.reduceLT, Int.reduceLE, Int.reduceAdd, Int.reduceSub, Int.reduceMul, Int.reduceNeg, reduceIte, ite_true, ite_false, true_and, and_true, false_and, and_false, true_or, or_true, false_or, or_false, not_true_eq_false, not_false_eq_true, and_self, or_self, eq_self, ite_self, decide_true, decide_false, Bool.true_and, Bool.and_true, Bool.and_self, Bool.false_and, Int.add_zero, Int.zero_add, ax_rw, if_pos, if_neg, ax_o_1, kr_1_0, kr_1_1, kr_1_2, kr_1_3, kr_1_4, kr_1_5, kr_1_6, kr_1_7, kr_1_9, kr_1_10, kr_1_11, kr_1_12, kr_1_13, kr_1_14, ax_a_419, ax_o_2, kr_2_0, kr_2_1, kr_2_2, kr_2_3, kr_2_4, ax_a_3, ax_a_4, ax_a_5, ax_a_6, ax_a_7, e7, ax_b0, h0, h1]
      · rw [m_199 hK mB, if_neg h0, if_pos (Or.inl h1)]
end
