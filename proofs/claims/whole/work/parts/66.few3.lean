/-! fewSmells, the end -/
section
variable {M : am_M} {d : Nat}
theorem m_232 (a : RR M) {x : Int} (hx : 0 ≤ x ∧ x < ((2 ^ (am_rd M 448 0).toNat : Nat) : Int)) : am_Call d 232 [(2, 447), (0, x)] M = some (ax_fo (fun i s => fwD (fun k => am_and x (am_xor (fwT M k) (-1)) = 0) ax_cn (((2 ^ (am_rd M 448 2).toNat : Nat) : Int) - 1 - i) s) (((2 ^ (am_rd M 448 2).toNat : Nat) : Int) - 0).toNat 0 (-1), M) := by
  have hK := a.1
  have mB := RR_mB a
  have bS := a.2.1.2.1.1.2.2.1
  have pw := ax_pw bS.1 (by omega : am_rd M 448 2 ≤ 8)
  have e201 := fun k => m_201 (x := k) a d
  have q : am_Call d 145 [(2, 447), (0, x)] M = some (1, M) := by
    rw [m_145 hK mB]; unfold ax_b; rw [if_pos hx]
  rw [aq_232, show am_ob 447 11 = true from rfl, ax_gt, q, Option.bind_some]
  dsimp only []
  rw [if_neg (by decide), kr_447_0 hK]
  simp (disch := first | assumption | omega) only [ax_gt, ax_gi, Option.bind_some, ax_gbl, ax_gb2, ax_gd, Int.reduceEq, Int.reduceNe, Int.reduceLT, Int.reduceLE, Int.reduceAdd, Int.reduceSub, Int.reduceMul, Int.reduceNeg, reduceIte, ite_true, ite_false, true_and, and_true, false_and, and_false, true_or, or_true, false_or, or_false, not_true_eq_false, not_false_eq_true, and_self, or_self, eq_self, ite_self, decide_true, decide_false, Bool.true_and, Bool.and_true, Bool.and_self, Bool.false_and, Int.add_zero, Int.zero_add, ax_a_448, kr_447_0]
  rw [pw.1, ax_let]
  generalize hN : ((2 ^ (am_rd M 448 2).toNat : Nat) : Int) = N at *
  have key : ∀ (j : Nat) (i s : Int), i + j = N → (0 ≤ i ∧ (s = -1 ∨ (0 ≤ s ∧ s < N))) → am_Ex d 232 18 [(2, 447), (0, x), (0, s), (0, N - 1 - i)] [] M = some (ax_fo (fun i s => fwD (fun k => am_and x (am_xor (fwT M k) (-1)) = 0) ax_cn (N - 1 - i) s) j i s, M) := by
    refine ax_loop (X := fun i s => am_Ex d 232 18 [(2, 447), (0, x), (0, s), (0, N - 1 - i)] [] M) (E := fun s => some (s, M)) (n := N) (fun i s => 0 ≤ i ∧ (s = -1 ∨ (0 ≤ s ∧ s < N))) ?_ ?_
    · intro i s ⟨i0, s0⟩ i1
      generalize hk : N - 1 - i = k
      have k0 : 0 ≤ k := by omega
      have k1 : k < N := by omega
      have e40 : ∀ s, am_Ex d 232 40 [(2, 447), (0, x), (0, s), (0, k)] [] M = am_Ex d 232 18 [(2, 447), (0, x), (0, s), (0, N - 1 - (i + 1))] [] M := fun s => by
        rw [aq_232_40, ax_w32 (by omega) (by omega), ax_let, show k + -1 = N - 1 - (i + 1) by omega]
      constructor
      · show am_Ex d 232 18 [(2, 447), (0, x), (0, s), (0, k)] [] M = am_Ex d 232 18 [(2, 447), (0, x), (0, fwD (fun k => am_and x (am_xor (fwT M k) (-1)) = 0) ax_cn k s), (0, N - 1 - (i + 1))] [] M
        rw [aq_232_18, if_neg (by omega), show am_ob 447 11 = true from rfl, ax_gt, e201, Option.bind_some]
        dsimp only []
        unfold fwD
        by_cases f : am_and x (am_xor (fwT M k) (-1)) = 0
        · rw [if_pos f, if_pos f]
          by_cases h : s = -1
          · rw [if_pos h, if_pos h, aq_232_37, e40]
          · rw [if_neg h, if_neg h, m_66 k0 (by omega), Option.bind_some]
            dsimp only []
            rw [m_66 (by omega) (by omega), Option.bind_some]
            dsimp only []
            by_cases h2 : ax_cn k ≤ ax_cn s
            · rw [if_pos h2, if_pos h2, aq_232_37, e40]
            · rw [if_neg h2, if_neg h2, e40]
        · rw [if_neg f, if_neg f, e40]
      · refine ⟨by omega, ?_⟩
        unfold fwD
        (repeat' split) <;> omega
    · intro s _
      show am_Ex d 232 18 _ _ _ = _
      rw [aq_232_18, if_pos (by omega)]
  have := key (N - 0).toNat 0 (-1) (by omega) (by omega)
  rw [show N - 1 - 0 = N - 1 by omega] at this
  exact this
theorem op_few (a : RR M) {x : Int} (hx : -2147483648 ≤ x ∧ x < 2147483648) : OP d M 189 232 [(0, x)] := by
  have hK := a.1
  have gB := RR_gB a
  have mB := RR_mB a
  have bS := a.2.1.2.1.1.2.2.1
  have pw := ax_pw bS.1 (by omega : am_rd M 448 2 ≤ 8)
  have e108 := fun d => c_108 (d := d) (x := x) hK gB
  rw [ax_w32 hx.1 hx.2, a.2.1.1.1.1] at e108
  have e130 := fun d => c_130 (d := d) (x := x) a
  by_cases h1 : 0 ≤ x ∧ x < ((2 ^ (am_rd M 448 0).toNat : Nat) : Int)
  · refine ⟨_, M, M, ?_, m_232 a h1, a⟩
    rw [← few (by omega)]
    rw [aq_189]
    simp (disch := first | assumption | omega) only [ax_gt, ax_gi, Option.bind_some, ax_gbl, ax_gb2, ax_gd, Int.reduceEq, Int.reduceNe, Int.reduceLT, Int.reduceLE, Int.reduceAdd, Int.reduceSub, Int.reduceMul, Int.reduceNeg, reduceIte, ite_true, ite_false, true_and, and_true, false_and, and_false, true_or, or_true, false_or, or_false, not_true_eq_false, not_false_eq_true, and_self, or_self, eq_self, ite_self, decide_true, decide_false, Bool.true_and, Bool.and_true, Bool.and_self, Bool.false_and, Int.add_zero, Int.zero_add, ax_rw, if_pos, if_neg, ax_o_1, kr_1_0, kr_1_1, kr_1_2, kr_1_3, kr_1_4, kr_1_5, kr_1_6, kr_1_7, kr_1_9, kr_1_10, kr_1_11, kr_1_12, kr_1_13, kr_1_14, ax_a_419, ax_o_2, kr_2_0, kr_2_1, kr_2_2, kr_2_3, kr_2_4, ax_a_3, ax_a_4, ax_a_5, ax_a_6, ax_a_7, ax_o_442, kr_442_0, kr_442_1, kr_442_2, kr_442_3, ax_a_443, e108, ax_b0, h1, e130]
  · refine ⟨-1, M, M, ?_, ?_, a⟩
    · rw [aq_189]; simp (disch := first | assumption | omega) only [ax_gt, ax_gi, Option.bind_some, ax_gbl, ax_gb2, ax_gd, Int.reduceEq, Int.reduceNe, Int.reduceLT, Int.reduceLE, Int.reduceAdd, Int.reduceSub, Int.reduceMul, Int.reduceNeg, reduceIte, ite_true, ite_false, true_and, and_true, false_and, and_false, true_or, or_true, false_or, or_false, not_true_eq_false, not_false_eq_true, and_self, or_self, eq_self, ite_self, decide_true, decide_false, Bool.true_and, Bool.and_true, Bool.and_self, Bool.false_and, Int.add_zero, Int.zero_add, ax_rw, if_pos, if_neg, ax_o_1, kr_1_0, kr_1_1, kr_1_2, kr_1_3, kr_1_4, kr_1_5, kr_1_6, kr_1_7, kr_1_9, kr_1_10, kr_1_11, kr_1_12, kr_1_13, kr_1_14, ax_a_419, ax_o_2, kr_2_0, kr_2_1, kr_2_2, kr_2_3, kr_2_4, ax_a_3, ax_a_4, ax_a_5, ax_a_6, ax_a_7, e108, ax_b0, h1]
    · rw [aq_232, show am_ob 447 11 = true from rfl, ax_gt, m_145 hK mB, Option.bind_some]
      dsimp only []
      rw [if_pos (by rw [ax_b0]; exact h1)]
end
