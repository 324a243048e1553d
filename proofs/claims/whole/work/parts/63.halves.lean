/-! halves -/
section
variable {M : am_M} {d : Nat}
theorem op_halves (a : RR M) {m t w : Int} : OP d M 244 270 [(0, m), (0, t), (0, w)] := by
  have hK := a.1
  have gB := RR_gB a
  have mB := RR_mB a
  have g := a.2.1.1
  have hT := a.2.1.2.1.1.1
  have hn := a.2.1.2.1.1.2.1
  have C := RR_C a
  have B := RR_H a
  have hh : (8 : Int) = 8 ∨ (8 : Int) = 425 := Or.inl rfl
  obtain ⟨P, W, cd, E, E2, S⟩ := RR_env a
  have c8 := fun d => c_8 (d := d) (t := m) hK gB
  have c8t := fun d => c_8 (d := d) (t := t) hK gB
  rw [g.1.2.1] at c8 c8t
  have m144 := fun d => m_144 (d := d) (t := m) hK mB
  have m144t := fun d => m_144 (d := d) (t := t) hK mB
  have hr : ∀ d, ¬ ((0 ≤ m ∧ m < am_rd M 448 1) ∧ (0 ≤ t ∧ t < am_rd M 448 1) ∧ ¬ m = t) → OP d M 244 270 [(0, m), (0, t), (0, w)] := fun d h => by
    refine ⟨-1, M, M, ?_, ?_, a⟩
    · rw [aq_244]
      by_cases hm : 0 ≤ m ∧ m < am_rd M 448 1
      · by_cases ht : 0 ≤ t ∧ t < am_rd M 448 1
        · have he : m = t := Decidable.not_not.mp fun q => h ⟨hm, ht, q⟩
          simp (disch := first | assumption | omega) only [ax_gt, ax_gi, Option.bind_some, ax_gbl, ax_gb2, ax_gd, Int.reduceEq, Int.reduceNe, Int.reduceLT, Int.reduceLE, Int.reduceAdd, Int.reduceSub, Int.reduceMul, Int.reduceNeg, reduceIte, ite_true, ite_false, true_and, and_true, false_and, and_false, true_or, or_true, false_or, or_false, not_true_eq_false, not_false_eq_true, and_self, or_self, eq_self, ite_self, decide_true, decide_false, Bool.true_and, Bool.and_true, Bool.and_self, Bool.false_and, Int.add_zero, Int.zero_add, ax_rw, if_pos, if_neg, ax_o_1, kr_1_0, kr_1_1, kr_1_2, kr_1_3, kr_1_4, kr_1_5, kr_1_6, kr_1_7, kr_1_9, kr_1_10, kr_1_11, kr_1_12, kr_1_13, kr_1_14, ax_a_419, ax_o_2, kr_2_0, kr_2_1, kr_2_2, kr_2_3, kr_2_4, ax_a_3, ax_a_4, ax_a_5, ax_a_6, ax_a_7, ax_o_8, kr_8_0, kr_8_1, kr_8_2, kr_8_3, kr_8_4, ax_a_9, ax_a_10, ax_a_11, ax_a_12, ax_a_13, c8, c8t, ax_b0, he]
        · simp (disch := first | assumption | omega) only [ax_gt, ax_gi, Option.bind_some, ax_gbl, ax_gb2, ax_gd, Int.reduceEq, Int.reduceNe, Int.reduceLT, Int.reduceLE, Int.reduceAdd, Int.reduceSub, Int.reduceMul, Int.reduceNeg, reduceIte, ite_true, ite_false, true_and, and_true, false_and, and_false, true_or, or_true, false_or, or_false, not_true_eq_false, not_false_eq_true, and_self, or_self, eq_self, ite_self, decide_true, decide_false, Bool.true_and, Bool.and_true, Bool.and_self, Bool.false_and, Int.add_zero, Int.zero_add, ax_rw, if_pos, if_neg, ax_o_1, kr_1_0, kr_1_1, kr_1_2, kr_1_3, kr_1_4, kr_1_5, kr_1_6, kr_1_7, kr_1_9, kr_1_10, kr_1_11, kr_1_12, kr_1_13, kr_1_14, ax_a_419, ax_o_2, kr_2_0, kr_2_1, kr_2_2, kr_2_3, kr_2_4, ax_a_3, ax_a_4, ax_a_5, ax_a_6, ax_a_7, ax_o_8, kr_8_0, kr_8_1, kr_8_2, kr_8_3, kr_8_4, ax_a_9, ax_a_10, ax_a_11, ax_a_12, ax_a_13, c8, c8t, ax_b0]
      · simp (disch := first | assumption | omega) only [ax_gt, ax_gi, Option.bind_some, ax_gbl, ax_gb2, ax_gd, Int.reduceEq, Int.reduceNe, Int.reduceLT, Int.reduceLE, Int.reduceAdd, Int.reduceSub, Int.reduceMul, Int.reduceNeg, reduceIte, ite_true, ite_false, true_and, and_true, false_and, and_false, true_or, or_true, false_or, or_false, not_true_eq_false, not_false_eq_true, and_self, or_self, eq_self, ite_self, decide_true, decide_false, Bool.true_and, Bool.and_true, Bool.and_self, Bool.false_and, Int.add_zero, Int.zero_add, ax_rw, if_pos, if_neg, ax_o_1, kr_1_0, kr_1_1, kr_1_2, kr_1_3, kr_1_4, kr_1_5, kr_1_6, kr_1_7, kr_1_9, kr_1_10, kr_1_11, kr_1_12, kr_1_13, kr_1_14, ax_a_419, ax_o_2, kr_2_0, kr_2_1, kr_2_2, kr_2_3, kr_2_4, ax_a_3, ax_a_4, ax_a_5, ax_a_6, ax_a_7, ax_o_8, kr_8_0, kr_8_1, kr_8_2, kr_8_3, kr_8_4, ax_a_9, ax_a_10, ax_a_11, ax_a_12, ax_a_13, c8, ax_b0]
    · rw [aq_270]
      by_cases hm : 0 ≤ m ∧ m < am_rd M 448 1
      · by_cases ht : 0 ≤ t ∧ t < am_rd M 448 1
        · have he : m = t := Decidable.not_not.mp fun q => h ⟨hm, ht, q⟩
          simp (disch := first | assumption | omega) only [ax_gt, ax_gi, Option.bind_some, ax_gbl, ax_gb2, ax_gd, Int.reduceEq, Int.reduceNe, Int.reduceLT, Int.reduceLE, Int.reduceAdd, Int.reduceSub, Int.reduceMul, Int.reduceNeg, reduceIte, ite_true, ite_false, true_and, and_true, false_and, and_false, true_or, or_true, false_or, or_false, not_true_eq_false, not_false_eq_true, and_self, or_self, eq_self, ite_self, decide_true, decide_false, Bool.true_and, Bool.and_true, Bool.and_self, Bool.false_and, Int.add_zero, Int.zero_add, ax_rw, if_pos, if_neg, ax_o_447, m144, m144t, ax_b0, he]
        · simp (disch := first | assumption | omega) only [ax_gt, ax_gi, Option.bind_some, ax_gbl, ax_gb2, ax_gd, Int.reduceEq, Int.reduceNe, Int.reduceLT, Int.reduceLE, Int.reduceAdd, Int.reduceSub, Int.reduceMul, Int.reduceNeg, reduceIte, ite_true, ite_false, true_and, and_true, false_and, and_false, true_or, or_true, false_or, or_false, not_true_eq_false, not_false_eq_true, and_self, or_self, eq_self, ite_self, decide_true, decide_false, Bool.true_and, Bool.and_true, Bool.and_self, Bool.false_and, Int.add_zero, Int.zero_add, ax_rw, if_pos, if_neg, ax_o_447, m144, m144t, ax_b0]
      · simp (disch := first | assumption | omega) only [ax_gt, ax_gi, Option.bind_some, ax_gbl, ax_gb2, ax_gd, Int.reduceEq, Int.reduceNe, Int.reduceLT, Int.reduceLE, Int.reduceAdd, Int.reduceSub, Int.reduceMul, Int.reduceNeg, reduceIte, ite_true, ite_false, true_and, and_true, false_and, and_false, true_or, or_true, false_or, or_false, not_true_eq_false, not_false_eq_true, and_self, or_self, eq_self, ite_self, decide_true, decide_false, Bool.true_and, Bool.and_true, Bool.and_self, Bool.false_and, Int.add_zero, Int.zero_add, ax_rw, if_pos, if_neg, ax_o_447, m144, ax_b0]
  by_cases hm : 0 ≤ m ∧ m < am_rd M 448 1
  · by_cases ht : 0 ≤ t ∧ t < am_rd M 448 1
    · by_cases he : m = t
      · exact hr d fun h => h.2.2 he
      · clear hr
        obtain ⟨v1, M1, k1, q1, f1⟩ := c_209 (d := d) hK hh C E S B hm.1 hm.2
        have hK1 := ax_Kp k1 hK rfl
        obtain ⟨v2, M2, k2, q2, f2⟩ := c_209 (d := d) hK1 hh (JF_CH hh C f1) (CE_same E fun c i h => f1 c i (by omega) (by omega)) S B ht.1 ht.2
        have hK2 := ax_Kp k2 hK1 rfl
        have e11 := fun d => c_11 (d := d) hK2
        have e5 : am_rd M2 2 5 = am_rd M 448 0 := (f2 _ _ (by omega) (by omega)).trans ((f1 _ _ (by omega) (by omega)).trans g.1.1)
        rw [e5] at e11
        have jj : ∀ c i, c ≠ 40 → c ≠ 41 → am_rd M2 c i = am_rd M c i := fun c i h1 h2 => (f2 c i h1 h2).trans (f1 c i h1 h2)
        refine OP_ro (r := if w = 0 then am_and v1 (am_xor v2 (-1)) else if w = 1 then am_and v2 (am_xor v1 (-1)) else if w = 2 then am_and v1 v2 else if w = 3 then am_and (am_w32 (am_shl 1 (am_rd M 448 0) - 1)) (am_xor (am_or v1 v2) (-1)) else -1) a ?_ rfl ?_ rfl
        · rw [aq_244]
          simp (disch := first | assumption | omega) only [ax_gt, ax_gi, Option.bind_some, ax_gbl, ax_gb2, ax_gd, Int.reduceEq, Int.reduceNe, Int.reduceLT, Int.reduceLE, Int.reduceAdd, Int.reduceSub, Int.reduceMul, Int.reduceNeg, reduceIte, ite_true, ite_false, true_and, and_true, false_and, and_false, true_or, or_true, false_or, or_false, not_true_eq_false, not_false_eq_true, and_self, or_self, eq_self, ite_self, decide_true, decide_false, Bool.true_and, Bool.and_true, Bool.and_self, Bool.false_and, Int.add_zero, Int.zero_add, ax_rw, if_pos, if_neg, ax_o_1, kr_1_0, kr_1_1, kr_1_2, kr_1_3, kr_1_4, kr_1_5, kr_1_6, kr_1_7, kr_1_9, kr_1_10, kr_1_11, kr_1_12, kr_1_13, kr_1_14, ax_a_419, ax_o_2, kr_2_0, kr_2_1, kr_2_2, kr_2_3, kr_2_4, ax_a_3, ax_a_4, ax_a_5, ax_a_6, ax_a_7, ax_o_8, kr_8_0, kr_8_1, kr_8_2, kr_8_3, kr_8_4, ax_a_9, ax_a_10, ax_a_11, ax_a_12, ax_a_13, ax_o_39, kr_39_0, kr_39_1, kr_39_2, kr_39_3, ax_a_40, ax_a_41, c8, c8t, ax_b0, k1, k2, e11]
          (repeat' split) <;> exact ax_ok_some ⟨rfl, JF_jk jj⟩
        · intro N a' f
          have F : FH N 448 60 (fl M 448 60) := fun j _ _ => f _ _ (by unfold jk; omega)
          have E3 : ME N (am_rd M 448 0) (am_rd M 448 1) (am_rd M 448 7) P W cd := ME_same E2 fun c i hc => f c i (by unfold jk; omega)
          have m144 := fun d => m_144 (d := d) (t := m) a'.1 (RR_mB a')
          have m144t := fun d => m_144 (d := d) (t := t) a'.1 (RR_mB a')
          rw [f 448 1 (by unfold jk; omega)] at m144 m144t
          obtain ⟨x1, N1, y1, C1, F1⟩ := m_88 (d := d) a'.1 F
          have hK1 := ax_Kp y1 a'.1 rfl
          have E4 := NF_ME E3 F1
          obtain ⟨u1, N2, k3, q3, f3⟩ := m_251 (d := d) hK1 C1 E4 S B hm.1 (by omega)
          have hK2 := ax_Kp k3 hK1 rfl
          obtain ⟨u2, N3, k4, q4, f4⟩ := m_251 (d := d) hK2 (JF_NH C1 f3) (NF_ME E4 (JF_NF f3)) S B ht.1 (by omega)
          have hK3 := ax_Kp k4 hK2 rfl
          have FF : NF N N3 := NF_trans F1 (NF_trans (JF_NF f3) (JF_NF f4))
          have z0 : am_rd N3 448 0 = am_rd M 448 0 := (FF _ _ (by omega) (by omega) (by omega) (by omega)).trans (f _ _ (by unfold jk; omega))
          have g1 : u1 = v1 := q3.trans q1.symm
          have g2 : u2 = v2 := q4.trans q2.symm
          subst g1 g2
          have hK' := a'.1
          rw [aq_270]
          simp (disch := first | assumption | omega) only [ax_gt, ax_gi, Option.bind_some, ax_gbl, ax_gb2, ax_gd, Int.reduceEq, Int.reduceNe, Int.reduceLT, Int.reduceLE, Int.reduceAdd, Int.reduceSub, Int.reduceMul, Int.reduceNeg, reduceIte, ite_true, ite_false, true_and, and_true, false_and, and_false, true_or, or_true, false_or, or_false, not_true_eq_false, not_false_eq_true, and_self, or_self, eq_self, ite_self, decide_true, decide_false, Bool.true_and, Bool.and_true, Bool.and_self, Bool.false_and, Int.add_zero, Int.zero_add, ax_rw, if_pos, if_neg, ax_o_447, ax_a_448, kr_447_0, m144, m144t, ax_b0, y1, k3, k4, z0]
          (repeat' split) <;> exact ax_ok_some ⟨rfl, NF_jk FF⟩
    · exact hr d fun h => ht h.2.1
  · exact hr d fun h => hm h.1
end
