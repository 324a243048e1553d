/-! what the relation gives -/
theorem XL_non {cl : List xcl} {k : Int} (h : XL cl k = none) (j : Nat) (hj : j < cl.length) : cl[j].1 ≠ k := by
  unfold XL at h
  have h1 := List.find?_eq_none.mp (Option.map_eq_none_iff.mp h) cl[j] (List.getElem_mem hj)
  intro e
  exact h1 (beq_iff_eq.mpr e)
theorem XL_some {cl : List xcl} {k : Int} {c : List (Int × Int)} (h : XL cl k = some c) : ∃ (j : Nat) (hj : j < cl.length), cl[j].1 = k ∧ cl[j].2.2.2.2 = c := by
  unfold XL at h
  obtain ⟨x, h1, h2⟩ := Option.map_eq_some_iff.mp h
  have h3 : x.1 = k := by simpa using List.find?_some h1
  obtain ⟨j, hj, e⟩ := List.getElem_of_mem (List.mem_of_find?_eq_some h1)
  exact ⟨j, hj, by rw [e]; exact h3, by rw [e]; exact h2⟩
theorem XM_MT {M : am_M} {t k : Int} {cl : List xcl} (a : XM M t cl) (o : XO cl) (k0 : 0 ≤ k) (k1 : k < 4) : MT M t k (XL cl k) := by
  obtain ⟨a1, a2⟩ := a
  unfold MT
  rw [a1]
  cases hc : XL cl k with
  | none =>
    intro j j0 j1
    have := XL_non hc j.toNat (by omega)
    have h := (a2 j.toNat (by omega)).1
    rw [Int.toNat_of_nonneg j0] at h
    rw [h]; exact this
  | some c =>
    obtain ⟨j, hj, e1, e2⟩ := XL_some hc
    obtain ⟨b1, b2, b3, b4, b5⟩ := a2 j hj
    refine ⟨j, by omega, by omega, b1.trans e1, fun i i0 i1 h => ?_, e2 ▸ (b5 (by omega)).1⟩
    have h2 := (a2 i.toNat (by omega)).1
    rw [Int.toNat_of_nonneg i0, h] at h2
    have := o.2.2 i.toNat j (by omega) hj (h2.symm.trans e1.symm) (by omega)
    omega
theorem XO_ok {cl : List xcl} {k : Int} {c : List (Int × Int)} (o : XO cl) (k1 : k < 4) (h : XL cl k = some c) : lx_ok k c := by
  obtain ⟨j, hj, e1, e2⟩ := XL_some h
  have := (o.2.1 j hj).2.1 (by omega)
  rw [e1, e2] at this
  exact this
section
variable {M : am_M} {d : Nat}
theorem RR_gB (a : RR M) : cg_B M := by
  obtain ⟨k, ⟨g, b, -, -⟩, -⟩ := a
  obtain ⟨⟨g1, g2, g3, g4, g5, g6, g7⟩, -⟩ := g
  obtain ⟨⟨b1, b2, b3, b4, b5, b6, b7, b8⟩, -⟩ := b
  unfold cg_B
  rw [g1, g2, g3, g6, g4]
  exact ⟨b1, b2, b3, b7, b4⟩
theorem RR_mB (a : RR M) : mb_B M := by
  obtain ⟨k, ⟨g, b, -, -⟩, -⟩ := a
  obtain ⟨⟨b1, b2, b3, b4, b5, b6, b7, b8⟩, -⟩ := b
  exact ⟨b1, b2, b3, b7, b4, b6⟩
theorem RR_env (a : RR M) : ∃ P W cd, CE M (am_rd M 448 0) (am_rd M 448 1) (am_rd M 448 7) P W cd ∧ ME M (am_rd M 448 0) (am_rd M 448 1) (am_rd M 448 7) P W cd ∧ ES (am_rd M 448 0) (am_rd M 448 1) (am_rd M 448 7) P W cd := by
  obtain ⟨k, ⟨g, b, -, -⟩, -, -, x1, X, x2⟩ := a
  obtain ⟨⟨g1, g2, g3, g4, g5, g6, g7⟩, g8, g9, g10, -⟩ := g
  obtain ⟨⟨b1, b2, b3, b4, b5, b6, b7, b8⟩, b9, -, -, b10, -⟩ := b
  have main : ∃ cd, CL M cd ∧ ML M cd ∧ (∀ k c, 0 ≤ k → k < 4 → cd k = some c → lx_ok k c) := by
    by_cases hr : am_rd M 448 4 = -1
    · exact ⟨fun _ => none, Or.inl ⟨g5.trans hr, fun _ _ _ => rfl⟩, Or.inl ⟨hr, fun _ _ _ => rfl⟩, fun k c _ _ h => by cases h⟩
    · obtain ⟨c1, c2, c3⟩ := x2 (am_rd M 448 4) (by omega) (by omega) b5.2
      refine ⟨fun k => XL (X (am_rd M 448 4)) k, Or.inr ⟨by omega, by omega, fun k k0 k1 => ?_⟩, Or.inr ⟨⟨by omega, by omega⟩, ?_, fun k k0 k1 => XM_MT c2 c3 k0 k1⟩, fun k c _ k1 h => XO_ok c3 k1 h⟩
      · rw [g5]; exact c1.2.2 k k0 k1
      · rw [c2.1]; have := c3.1; omega
  obtain ⟨cd, c1, c2, c3⟩ := main
  exact ⟨fun j => am_rd M 448 (26 + j), fun j => am_rd M 448 (10 + j), cd, ⟨⟨g1, g2, g7⟩, g10, g8, c1⟩, ⟨⟨rfl, rfl, rfl⟩, fun _ _ _ => rfl, fun _ _ _ => rfl, c2⟩, ⟨b1, b2, b8, b10, b9, c3⟩⟩
theorem RR_C (a : RR M) : CH M 8 (am_rd M 448 1) (fl M 448 60) := a.2.1.2.2.1.1
theorem RR_H (a : RR M) : HB (am_rd M 448 0) (fl M 448 60) := a.2.1.2.2.1.2.1
theorem FH_fl {c o : Int} : FH M c o (fl M c o) := fun _ _ _ => rfl
/-- a call of both: the same answer, and the relation again -/
def OP (d : Nat) (M : am_M) (x m : Nat) (as : List am_V) : Prop := ∃ r M1 M2, am_Call d x ((2, 1) :: as) M = some (r, M1) ∧ am_Call d m ((2, 447) :: as) M1 = some (r, M2) ∧ RR M2
/-- both change nothing that means anything -/
theorem OP_ro {x m : Nat} {as : List am_V} {r : Int} (a : RR M) (hx : ax_ok (am_Call d x ((2, 1) :: as) M) (fun r' M1 => r' = r ∧ ∀ c i, ¬ jk c i → am_rd M1 c i = am_rd M c i)) (nx : ax_nc x = true) (hm : ∀ M1, RR M1 → (∀ c i, ¬ jk c i → am_rd M1 c i = am_rd M c i) → ax_ok (am_Call d m ((2, 447) :: as) M1) (fun r' M2 => r' = r ∧ ∀ c i, ¬ jk c i → am_rd M2 c i = am_rd M1 c i)) (nm : ax_nc m = true) : OP d M x m as := by
  obtain ⟨r1, M1, e1, rfl, f1⟩ := hx
  have k1 := ax_Kp e1 a.1 nx
  have a1 := RR_same a k1 f1
  obtain ⟨r2, M2, e2, rfl, f2⟩ := hm M1 a1 f1
  exact ⟨_, M1, M2, e1, e2, RR_same a1 (ax_Kp e2 k1 nm) f2⟩
theorem JF_jk {M M' : am_M} (f : ∀ c i, c ≠ 40 → c ≠ 41 → am_rd M' c i = am_rd M c i) : ∀ c i, ¬ jk c i → am_rd M' c i = am_rd M c i := fun c i h => by
  unfold jk at h
  exact f c i (by omega) (by omega)
theorem NF_jk {M M' : am_M} (f : NF M M') : ∀ c i, ¬ jk c i → am_rd M' c i = am_rd M c i := fun c i h => by
  unfold jk at h
  exact f c i (by omega) (by omega) (by omega) (by omega)
/-! about -/
theorem op_about (a : RR M) {w : Int} : OP d M 63 98 [(0, w)] := by
  have b := a.2.1.1.1
  have t := a.2.2.2.1.1
  have s := a.2.1.2.2.2.2.1
  have hK := a.1
  obtain ⟨r1, r2, r3, r4, r5, r6, r7, r8, r9⟩ := RR_C a
  have r8 : am_rd M 8 6 = am_rd M 448 222 := r8
  have r9 : am_rd M 8 7 = am_rd M 448 223 := r9
  obtain ⟨b1, b2, b3, b4, b5, b6, b7⟩ := b
  have hw : w = 0 ∨ w = 1 ∨ w = 2 ∨ w = 3 ∨ w = 4 ∨ w = 5 ∨ w = 6 ∨ w = 7 ∨ w = 8 ∨ w = 9 ∨ w = 10 ∨ (w < 0 ∨ 10 < w) := by omega
  rcases hw with rfl | rfl | rfl | rfl | rfl | rfl | rfl | rfl | rfl | rfl | rfl | hw
  · refine ⟨am_rd M 448 0, M, M, ?_, ?_, a⟩
    · rw [aq_63]; simp (disch := first | assumption | omega) only [ax_gt, ax_gi, Option.bind_some, ax_gbl, ax_gb2, ax_gd, Int.reduceEq, Int.reduceNe, Int.reduceLT, Int.reduceLE, Int.reduceAdd, Int.reduceSub, Int.reduceMul, Int.reduceNeg, reduceIte, ite_true, ite_false, true_and, and_true, false_and, and_false, true_or, or_true, false_or, or_false, not_true_eq_false, not_false_eq_true, and_self, or_self, eq_self, ite_self, decide_true, decide_false, Bool.true_and, Bool.and_true, Bool.and_self, Bool.false_and, Int.add_zero, Int.zero_add, ax_o_1, kr_1_0, kr_1_1, kr_1_2, kr_1_3, kr_1_4, kr_1_5, kr_1_6, kr_1_7, kr_1_9, kr_1_10, kr_1_11, kr_1_12, kr_1_13, kr_1_14, ax_a_419, ax_o_2, kr_2_0, kr_2_1, kr_2_2, kr_2_3, kr_2_4, ax_a_3, ax_a_4, ax_a_5, ax_a_6, ax_a_7, ax_o_8, kr_8_0, kr_8_1, kr_8_2, kr_8_3, kr_8_4, ax_a_9, ax_a_10, ax_a_11, ax_a_12, ax_a_13, ax_o_55, kr_55_0, ax_q_56, b1, b2, b3, b4, b5, b6, b7, r8, r9, s, t]
    · rw [aq_98]; simp (disch := first | assumption | omega) only [ax_gt, ax_gi, Option.bind_some, ax_gbl, ax_gb2, ax_gd, Int.reduceEq, Int.reduceNe, Int.reduceLT, Int.reduceLE, Int.reduceAdd, Int.reduceSub, Int.reduceMul, Int.reduceNeg, reduceIte, ite_true, ite_false, true_and, and_true, false_and, and_false, true_or, or_true, false_or, or_false, not_true_eq_false, not_false_eq_true, and_self, or_self, eq_self, ite_self, decide_true, decide_false, Bool.true_and, Bool.and_true, Bool.and_self, Bool.false_and, Int.add_zero, Int.zero_add, ax_o_447, ax_a_448, kr_447_0]
  · refine ⟨am_rd M 448 1, M, M, ?_, ?_, a⟩
    · rw [aq_63]; simp (disch := first | assumption | omega) only [ax_gt, ax_gi, Option.bind_some, ax_gbl, ax_gb2, ax_gd, Int.reduceEq, Int.reduceNe, Int.reduceLT, Int.reduceLE, Int.reduceAdd, Int.reduceSub, Int.reduceMul, Int.reduceNeg, reduceIte, ite_true, ite_false, true_and, and_true, false_and, and_false, true_or, or_true, false_or, or_false, not_true_eq_false, not_false_eq_true, and_self, or_self, eq_self, ite_self, decide_true, decide_false, Bool.true_and, Bool.and_true, Bool.and_self, Bool.false_and, Int.add_zero, Int.zero_add, ax_o_1, kr_1_0, kr_1_1, kr_1_2, kr_1_3, kr_1_4, kr_1_5, kr_1_6, kr_1_7, kr_1_9, kr_1_10, kr_1_11, kr_1_12, kr_1_13, kr_1_14, ax_a_419, ax_o_2, kr_2_0, kr_2_1, kr_2_2, kr_2_3, kr_2_4, ax_a_3, ax_a_4, ax_a_5, ax_a_6, ax_a_7, ax_o_8, kr_8_0, kr_8_1, kr_8_2, kr_8_3, kr_8_4, ax_a_9, ax_a_10, ax_a_11, ax_a_12, ax_a_13, ax_o_55, kr_55_0, ax_q_56, b1, b2, b3, b4, b5, b6, b7, r8, r9, s, t]
    · rw [aq_98]; simp (disch := first | assumption | omega) only [ax_gt, ax_gi, Option.bind_some, ax_gbl, ax_gb2, ax_gd, Int.reduceEq, Int.reduceNe, Int.reduceLT, Int.reduceLE, Int.reduceAdd, Int.reduceSub, Int.reduceMul, Int.reduceNeg, reduceIte, ite_true, ite_false, true_and, and_true, false_and, and_false, true_or, or_true, false_or, or_false, not_true_eq_false, not_false_eq_true, and_self, or_self, eq_self, ite_self, decide_true, decide_false, Bool.true_and, Bool.and_true, Bool.and_self, Bool.false_and, Int.add_zero, Int.zero_add, ax_o_447, ax_a_448, kr_447_0]
  · refine ⟨am_rd M 448 2, M, M, ?_, ?_, a⟩
    · rw [aq_63]; simp (disch := first | assumption | omega) only [ax_gt, ax_gi, Option.bind_some, ax_gbl, ax_gb2, ax_gd, Int.reduceEq, Int.reduceNe, Int.reduceLT, Int.reduceLE, Int.reduceAdd, Int.reduceSub, Int.reduceMul, Int.reduceNeg, reduceIte, ite_true, ite_false, true_and, and_true, false_and, and_false, true_or, or_true, false_or, or_false, not_true_eq_false, not_false_eq_true, and_self, or_self, eq_self, ite_self, decide_true, decide_false, Bool.true_and, Bool.and_true, Bool.and_self, Bool.false_and, Int.add_zero, Int.zero_add, ax_o_1, kr_1_0, kr_1_1, kr_1_2, kr_1_3, kr_1_4, kr_1_5, kr_1_6, kr_1_7, kr_1_9, kr_1_10, kr_1_11, kr_1_12, kr_1_13, kr_1_14, ax_a_419, ax_o_2, kr_2_0, kr_2_1, kr_2_2, kr_2_3, kr_2_4, ax_a_3, ax_a_4, ax_a_5, ax_a_6, ax_a_7, ax_o_8, kr_8_0, kr_8_1, kr_8_2, kr_8_3, kr_8_4, ax_a_9, ax_a_10, ax_a_11, ax_a_12, ax_a_13, ax_o_55, kr_55_0, ax_q_56, b1, b2, b3, b4, b5, b6, b7, r8, r9, s, t]
    · rw [aq_98]; simp (disch := first | assumption | omega) only [ax_gt, ax_gi, Option.bind_some, ax_gbl, ax_gb2, ax_gd, Int.reduceEq, Int.reduceNe, Int.reduceLT, Int.reduceLE, Int.reduceAdd, Int.reduceSub, Int.reduceMul, Int.reduceNeg, reduceIte, ite_true, ite_false, true_and, and_true, false_and, and_false, true_or, or_true, false_or, or_false, not_true_eq_false, not_false_eq_true, and_self, or_self, eq_self, ite_self, decide_true, decide_false, Bool.true_and, Bool.and_true, Bool.and_self, Bool.false_and, Int.add_zero, Int.zero_add, ax_o_447, ax_a_448, kr_447_0]
  · refine ⟨am_rd M 448 222, M, M, ?_, ?_, a⟩
    · rw [aq_63]; simp (disch := first | assumption | omega) only [ax_gt, ax_gi, Option.bind_some, ax_gbl, ax_gb2, ax_gd, Int.reduceEq, Int.reduceNe, Int.reduceLT, Int.reduceLE, Int.reduceAdd, Int.reduceSub, Int.reduceMul, Int.reduceNeg, reduceIte, ite_true, ite_false, true_and, and_true, false_and, and_false, true_or, or_true, false_or, or_false, not_true_eq_false, not_false_eq_true, and_self, or_self, eq_self, ite_self, decide_true, decide_false, Bool.true_and, Bool.and_true, Bool.and_self, Bool.false_and, Int.add_zero, Int.zero_add, ax_o_1, kr_1_0, kr_1_1, kr_1_2, kr_1_3, kr_1_4, kr_1_5, kr_1_6, kr_1_7, kr_1_9, kr_1_10, kr_1_11, kr_1_12, kr_1_13, kr_1_14, ax_a_419, ax_o_2, kr_2_0, kr_2_1, kr_2_2, kr_2_3, kr_2_4, ax_a_3, ax_a_4, ax_a_5, ax_a_6, ax_a_7, ax_o_8, kr_8_0, kr_8_1, kr_8_2, kr_8_3, kr_8_4, ax_a_9, ax_a_10, ax_a_11, ax_a_12, ax_a_13, ax_o_55, kr_55_0, ax_q_56, b1, b2, b3, b4, b5, b6, b7, r8, r9, s, t]
    · rw [aq_98]; simp (disch := first | assumption | omega) only [ax_gt, ax_gi, Option.bind_some, ax_gbl, ax_gb2, ax_gd, Int.reduceEq, Int.reduceNe, Int.reduceLT, Int.reduceLE, Int.reduceAdd, Int.reduceSub, Int.reduceMul, Int.reduceNeg, reduceIte, ite_true, ite_false, true_and, and_true, false_and, and_false, true_or, or_true, false_or, or_false, not_true_eq_false, not_false_eq_true, and_self, or_self, eq_self, ite_self, decide_true, decide_false, Bool.true_and, Bool.and_true, Bool.and_self, Bool.false_and, Int.add_zero, Int.zero_add, ax_o_447, ax_a_448, kr_447_0]
  · refine ⟨am_rd M 448 223, M, M, ?_, ?_, a⟩
    · rw [aq_63]; simp (disch := first | assumption | omega) only [ax_gt, ax_gi, Option.bind_some, ax_gbl, ax_gb2, ax_gd, Int.reduceEq, Int.reduceNe, Int.reduceLT, Int.reduceLE, Int.reduceAdd, Int.reduceSub, Int.reduceMul, Int.reduceNeg, reduceIte, ite_true, ite_false, true_and, and_true, false_and, and_false, true_or, or_true, false_or, or_false, not_true_eq_false, not_false_eq_true, and_self, or_self, eq_self, ite_self, decide_true, decide_false, Bool.true_and, Bool.and_true, Bool.and_self, Bool.false_and, Int.add_zero, Int.zero_add, ax_o_1, kr_1_0, kr_1_1, kr_1_2, kr_1_3, kr_1_4, kr_1_5, kr_1_6, kr_1_7, kr_1_9, kr_1_10, kr_1_11, kr_1_12, kr_1_13, kr_1_14, ax_a_419, ax_o_2, kr_2_0, kr_2_1, kr_2_2, kr_2_3, kr_2_4, ax_a_3, ax_a_4, ax_a_5, ax_a_6, ax_a_7, ax_o_8, kr_8_0, kr_8_1, kr_8_2, kr_8_3, kr_8_4, ax_a_9, ax_a_10, ax_a_11, ax_a_12, ax_a_13, ax_o_55, kr_55_0, ax_q_56, b1, b2, b3, b4, b5, b6, b7, r8, r9, s, t]
    · rw [aq_98]; simp (disch := first | assumption | omega) only [ax_gt, ax_gi, Option.bind_some, ax_gbl, ax_gb2, ax_gd, Int.reduceEq, Int.reduceNe, Int.reduceLT, Int.reduceLE, Int.reduceAdd, Int.reduceSub, Int.reduceMul, Int.reduceNeg, reduceIte, ite_true, ite_false, true_and, and_true, false_and, and_false, true_or, or_true, false_or, or_false, not_true_eq_false, not_false_eq_true, and_self, or_self, eq_self, ite_self, decide_true, decide_false, Bool.true_and, Bool.and_true, Bool.and_self, Bool.false_and, Int.add_zero, Int.zero_add, ax_o_447, ax_a_448, kr_447_0]
  · refine ⟨am_rd M 448 3, M, M, ?_, ?_, a⟩
    · rw [aq_63]; simp (disch := first | assumption | omega) only [ax_gt, ax_gi, Option.bind_some, ax_gbl, ax_gb2, ax_gd, Int.reduceEq, Int.reduceNe, Int.reduceLT, Int.reduceLE, Int.reduceAdd, Int.reduceSub, Int.reduceMul, Int.reduceNeg, reduceIte, ite_true, ite_false, true_and, and_true, false_and, and_false, true_or, or_true, false_or, or_false, not_true_eq_false, not_false_eq_true, and_self, or_self, eq_self, ite_self, decide_true, decide_false, Bool.true_and, Bool.and_true, Bool.and_self, Bool.false_and, Int.add_zero, Int.zero_add, ax_o_1, kr_1_0, kr_1_1, kr_1_2, kr_1_3, kr_1_4, kr_1_5, kr_1_6, kr_1_7, kr_1_9, kr_1_10, kr_1_11, kr_1_12, kr_1_13, kr_1_14, ax_a_419, ax_o_2, kr_2_0, kr_2_1, kr_2_2, kr_2_3, kr_2_4, ax_a_3, ax_a_4, ax_a_5, ax_a_6, ax_a_7, ax_o_8, kr_8_0, kr_8_1, kr_8_2, kr_8_3, kr_8_4, ax_a_9, ax_a_10, ax_a_11, ax_a_12, ax_a_13, ax_o_55, kr_55_0, ax_q_56, b1, b2, b3, b4, b5, b6, b7, r8, r9, s, t]
    · rw [aq_98]; simp (disch := first | assumption | omega) only [ax_gt, ax_gi, Option.bind_some, ax_gbl, ax_gb2, ax_gd, Int.reduceEq, Int.reduceNe, Int.reduceLT, Int.reduceLE, Int.reduceAdd, Int.reduceSub, Int.reduceMul, Int.reduceNeg, reduceIte, ite_true, ite_false, true_and, and_true, false_and, and_false, true_or, or_true, false_or, or_false, not_true_eq_false, not_false_eq_true, and_self, or_self, eq_self, ite_self, decide_true, decide_false, Bool.true_and, Bool.and_true, Bool.and_self, Bool.false_and, Int.add_zero, Int.zero_add, ax_o_447, ax_a_448, kr_447_0]
  · refine ⟨am_rd M 448 4, M, M, ?_, ?_, a⟩
    · rw [aq_63]; simp (disch := first | assumption | omega) only [ax_gt, ax_gi, Option.bind_some, ax_gbl, ax_gb2, ax_gd, Int.reduceEq, Int.reduceNe, Int.reduceLT, Int.reduceLE, Int.reduceAdd, Int.reduceSub, Int.reduceMul, Int.reduceNeg, reduceIte, ite_true, ite_false, true_and, and_true, false_and, and_false, true_or, or_true, false_or, or_false, not_true_eq_false, not_false_eq_true, and_self, or_self, eq_self, ite_self, decide_true, decide_false, Bool.true_and, Bool.and_true, Bool.and_self, Bool.false_and, Int.add_zero, Int.zero_add, ax_o_1, kr_1_0, kr_1_1, kr_1_2, kr_1_3, kr_1_4, kr_1_5, kr_1_6, kr_1_7, kr_1_9, kr_1_10, kr_1_11, kr_1_12, kr_1_13, kr_1_14, ax_a_419, ax_o_2, kr_2_0, kr_2_1, kr_2_2, kr_2_3, kr_2_4, ax_a_3, ax_a_4, ax_a_5, ax_a_6, ax_a_7, ax_o_8, kr_8_0, kr_8_1, kr_8_2, kr_8_3, kr_8_4, ax_a_9, ax_a_10, ax_a_11, ax_a_12, ax_a_13, ax_o_55, kr_55_0, ax_q_56, b1, b2, b3, b4, b5, b6, b7, r8, r9, s, t]
    · rw [aq_98]; simp (disch := first | assumption | omega) only [ax_gt, ax_gi, Option.bind_some, ax_gbl, ax_gb2, ax_gd, Int.reduceEq, Int.reduceNe, Int.reduceLT, Int.reduceLE, Int.reduceAdd, Int.reduceSub, Int.reduceMul, Int.reduceNeg, reduceIte, ite_true, ite_false, true_and, and_true, false_and, and_false, true_or, or_true, false_or, or_false, not_true_eq_false, not_false_eq_true, and_self, or_self, eq_self, ite_self, decide_true, decide_false, Bool.true_and, Bool.and_true, Bool.and_self, Bool.false_and, Int.add_zero, Int.zero_add, ax_o_447, ax_a_448, kr_447_0]
  · refine ⟨am_rd M 448 5, M, M, ?_, ?_, a⟩
    · rw [aq_63]; simp (disch := first | assumption | omega) only [ax_gt, ax_gi, Option.bind_some, ax_gbl, ax_gb2, ax_gd, Int.reduceEq, Int.reduceNe, Int.reduceLT, Int.reduceLE, Int.reduceAdd, Int.reduceSub, Int.reduceMul, Int.reduceNeg, reduceIte, ite_true, ite_false, true_and, and_true, false_and, and_false, true_or, or_true, false_or, or_false, not_true_eq_false, not_false_eq_true, and_self, or_self, eq_self, ite_self, decide_true, decide_false, Bool.true_and, Bool.and_true, Bool.and_self, Bool.false_and, Int.add_zero, Int.zero_add, ax_o_1, kr_1_0, kr_1_1, kr_1_2, kr_1_3, kr_1_4, kr_1_5, kr_1_6, kr_1_7, kr_1_9, kr_1_10, kr_1_11, kr_1_12, kr_1_13, kr_1_14, ax_a_419, ax_o_2, kr_2_0, kr_2_1, kr_2_2, kr_2_3, kr_2_4, ax_a_3, ax_a_4, ax_a_5, ax_a_6, ax_a_7, ax_o_8, kr_8_0, kr_8_1, kr_8_2, kr_8_3, kr_8_4, ax_a_9, ax_a_10, ax_a_11, ax_a_12, ax_a_13, ax_o_55, kr_55_0, ax_q_56, b1, b2, b3, b4, b5, b6, b7, r8, r9, s, t]
    · rw [aq_98]; simp (disch := first | assumption | omega) only [ax_gt, ax_gi, Option.bind_some, ax_gbl, ax_gb2, ax_gd, Int.reduceEq, Int.reduceNe, Int.reduceLT, Int.reduceLE, Int.reduceAdd, Int.reduceSub, Int.reduceMul, Int.reduceNeg, reduceIte, ite_true, ite_false, true_and, and_true, false_and, and_false, true_or, or_true, false_or, or_false, not_true_eq_false, not_false_eq_true, and_self, or_self, eq_self, ite_self, decide_true, decide_false, Bool.true_and, Bool.and_true, Bool.and_self, Bool.false_and, Int.add_zero, Int.zero_add, ax_o_447, ax_a_448, kr_447_0]
  · refine ⟨am_rd M 448 6, M, M, ?_, ?_, a⟩
    · rw [aq_63]; simp (disch := first | assumption | omega) only [ax_gt, ax_gi, Option.bind_some, ax_gbl, ax_gb2, ax_gd, Int.reduceEq, Int.reduceNe, Int.reduceLT, Int.reduceLE, Int.reduceAdd, Int.reduceSub, Int.reduceMul, Int.reduceNeg, reduceIte, ite_true, ite_false, true_and, and_true, false_and, and_false, true_or, or_true, false_or, or_false, not_true_eq_false, not_false_eq_true, and_self, or_self, eq_self, ite_self, decide_true, decide_false, Bool.true_and, Bool.and_true, Bool.and_self, Bool.false_and, Int.add_zero, Int.zero_add, ax_o_1, kr_1_0, kr_1_1, kr_1_2, kr_1_3, kr_1_4, kr_1_5, kr_1_6, kr_1_7, kr_1_9, kr_1_10, kr_1_11, kr_1_12, kr_1_13, kr_1_14, ax_a_419, ax_o_2, kr_2_0, kr_2_1, kr_2_2, kr_2_3, kr_2_4, ax_a_3, ax_a_4, ax_a_5, ax_a_6, ax_a_7, ax_o_8, kr_8_0, kr_8_1, kr_8_2, kr_8_3, kr_8_4, ax_a_9, ax_a_10, ax_a_11, ax_a_12, ax_a_13, ax_o_55, kr_55_0, ax_q_56, b1, b2, b3, b4, b5, b6, b7, r8, r9, s, t]
    · rw [aq_98]; simp (disch := first | assumption | omega) only [ax_gt, ax_gi, Option.bind_some, ax_gbl, ax_gb2, ax_gd, Int.reduceEq, Int.reduceNe, Int.reduceLT, Int.reduceLE, Int.reduceAdd, Int.reduceSub, Int.reduceMul, Int.reduceNeg, reduceIte, ite_true, ite_false, true_and, and_true, false_and, and_false, true_or, or_true, false_or, or_false, not_true_eq_false, not_false_eq_true, and_self, or_self, eq_self, ite_self, decide_true, decide_false, Bool.true_and, Bool.and_true, Bool.and_self, Bool.false_and, Int.add_zero, Int.zero_add, ax_o_447, ax_a_448, kr_447_0]
  · refine ⟨am_rd M 448 7, M, M, ?_, ?_, a⟩
    · rw [aq_63]; simp (disch := first | assumption | omega) only [ax_gt, ax_gi, Option.bind_some, ax_gbl, ax_gb2, ax_gd, Int.reduceEq, Int.reduceNe, Int.reduceLT, Int.reduceLE, Int.reduceAdd, Int.reduceSub, Int.reduceMul, Int.reduceNeg, reduceIte, ite_true, ite_false, true_and, and_true, false_and, and_false, true_or, or_true, false_or, or_false, not_true_eq_false, not_false_eq_true, and_self, or_self, eq_self, ite_self, decide_true, decide_false, Bool.true_and, Bool.and_true, Bool.and_self, Bool.false_and, Int.add_zero, Int.zero_add, ax_o_1, kr_1_0, kr_1_1, kr_1_2, kr_1_3, kr_1_4, kr_1_5, kr_1_6, kr_1_7, kr_1_9, kr_1_10, kr_1_11, kr_1_12, kr_1_13, kr_1_14, ax_a_419, ax_o_2, kr_2_0, kr_2_1, kr_2_2, kr_2_3, kr_2_4, ax_a_3, ax_a_4, ax_a_5, ax_a_6, ax_a_7, ax_o_8, kr_8_0, kr_8_1, kr_8_2, kr_8_3, kr_8_4, ax_a_9, ax_a_10, ax_a_11, ax_a_12, ax_a_13, ax_o_55, kr_55_0, ax_q_56, b1, b2, b3, b4, b5, b6, b7, r8, r9, s, t]
    · rw [aq_98]; simp (disch := first | assumption | omega) only [ax_gt, ax_gi, Option.bind_some, ax_gbl, ax_gb2, ax_gd, Int.reduceEq, Int.reduceNe, Int.reduceLT, Int.reduceLE, Int.reduceAdd, Int.reduceSub, Int.reduceMul, Int.reduceNeg, reduceIte, ite_true, ite_false, true_and, and_true, false_and, and_false, true_or, or_true, false_or, or_false, not_true_eq_false, not_false_eq_true, and_self, or_self, eq_self, ite_self, decide_true, decide_false, Bool.true_and, Bool.and_true, Bool.and_self, Bool.false_and, Int.add_zero, Int.zero_add, ax_o_447, ax_a_448, kr_447_0]
  · refine ⟨am_rd M 447 3, M, M, ?_, ?_, a⟩
    · rw [aq_63]; simp (disch := first | assumption | omega) only [ax_gt, ax_gi, Option.bind_some, ax_gbl, ax_gb2, ax_gd, Int.reduceEq, Int.reduceNe, Int.reduceLT, Int.reduceLE, Int.reduceAdd, Int.reduceSub, Int.reduceMul, Int.reduceNeg, reduceIte, ite_true, ite_false, true_and, and_true, false_and, and_false, true_or, or_true, false_or, or_false, not_true_eq_false, not_false_eq_true, and_self, or_self, eq_self, ite_self, decide_true, decide_false, Bool.true_and, Bool.and_true, Bool.and_self, Bool.false_and, Int.add_zero, Int.zero_add, ax_o_1, kr_1_0, kr_1_1, kr_1_2, kr_1_3, kr_1_4, kr_1_5, kr_1_6, kr_1_7, kr_1_9, kr_1_10, kr_1_11, kr_1_12, kr_1_13, kr_1_14, ax_a_419, ax_o_2, kr_2_0, kr_2_1, kr_2_2, kr_2_3, kr_2_4, ax_a_3, ax_a_4, ax_a_5, ax_a_6, ax_a_7, ax_o_8, kr_8_0, kr_8_1, kr_8_2, kr_8_3, kr_8_4, ax_a_9, ax_a_10, ax_a_11, ax_a_12, ax_a_13, ax_o_55, kr_55_0, ax_q_56, b1, b2, b3, b4, b5, b6, b7, r8, r9, s, t]
    · rw [aq_98]; simp (disch := first | assumption | omega) only [ax_gt, ax_gi, Option.bind_some, ax_gbl, ax_gb2, ax_gd, Int.reduceEq, Int.reduceNe, Int.reduceLT, Int.reduceLE, Int.reduceAdd, Int.reduceSub, Int.reduceMul, Int.reduceNeg, reduceIte, ite_true, ite_false, true_and, and_true, false_and, and_false, true_or, or_true, false_or, or_false, not_true_eq_false, not_false_eq_true, and_self, or_self, eq_self, ite_self, decide_true, decide_false, Bool.true_and, Bool.and_true, Bool.and_self, Bool.false_and, Int.add_zero, Int.zero_add, ax_o_447, ax_a_448, kr_447_0]
  · refine ⟨-2, M, M, ?_, ?_, a⟩
    · rw [aq_63]; simp (disch := first | assumption | omega) only [Int.reduceEq, Int.reduceNe, Int.reduceLT, Int.reduceLE, Int.reduceAdd, Int.reduceSub, Int.reduceMul, Int.reduceNeg, reduceIte, ite_true, ite_false, true_and, and_true, false_and, and_false, true_or, or_true, false_or, or_false, not_true_eq_false, not_false_eq_true, and_self, or_self, eq_self, ite_self, decide_true, decide_false, Bool.true_and, Bool.and_true, Bool.and_self, Bool.false_and, Int.add_zero, Int.zero_add, if_neg]
    · rw [aq_98]; simp (disch := first | assumption | omega) only [Int.reduceEq, Int.reduceNe, Int.reduceLT, Int.reduceLE, Int.reduceAdd, Int.reduceSub, Int.reduceMul, Int.reduceNeg, reduceIte, ite_true, ite_false, true_and, and_true, false_and, and_false, true_or, or_true, false_or, or_false, not_true_eq_false, not_false_eq_true, and_self, or_self, eq_self, ite_self, decide_true, decide_false, Bool.true_and, Bool.and_true, Bool.and_self, Bool.false_and, Int.add_zero, Int.zero_add, if_neg]
theorem op_ofTurn (a : RR M) {t w : Int} : OP d M 188 198 [(0, t), (0, w)] := by
  have hK := a.1
  have gB := RR_gB a
  have mB := RR_mB a
  have g := a.2.1.1
  have hT := a.2.1.2.1.1.1
  have e0 := g.1.1
  have c7 := fun d => c_7 (d := d) (t := t) hK gB
  have m143 := fun d => m_143 (d := d) (t := t) hK mB
  rw [e0] at c7
  by_cases ht : 0 ≤ t ∧ t < am_rd M 448 0
  · have c110 := fun d => c_110 (d := d) (t := t) hK gB ht.1 (by omega)
    have c111 := fun d => c_111 (d := d) (t := t) hK gB ht.1 (by omega)
    have q1 := g.2.1 t ht.1 (by omega)
    have q2 := g.2.2.1 t ht.1 (by omega)
    simp only [Int.reduceEq, Int.reduceNe, Int.reduceLT, Int.reduceLE, Int.reduceAdd, Int.reduceSub, Int.reduceMul, Int.reduceNeg, reduceIte, ite_true, ite_false, true_and, and_true, false_and, and_false, true_or, or_true, false_or, or_false, not_true_eq_false, not_false_eq_true, and_self, or_self, eq_self, ite_self, decide_true, decide_false, Bool.true_and, Bool.and_true, Bool.and_self, Bool.false_and, Int.add_zero, Int.zero_add] at q1 q2
    rw [q1] at c110
    rw [q2] at c111
    refine ⟨if w = 0 then am_rd M 448 (10 + t) else if w = 1 then am_rd M 448 (18 + t) else -1, M, M, ?_, ?_, a⟩
    · rw [aq_188]
      simp (disch := first | assumption | omega) only [ax_gt, ax_gi, Option.bind_some, ax_gbl, ax_gb2, ax_gd, Int.reduceEq, Int.reduceNe, Int.reduceLT, Int.reduceLE, Int.reduceAdd, Int.reduceSub, Int.reduceMul, Int.reduceNeg, reduceIte, ite_true, ite_false, true_and, and_true, false_and, and_false, true_or, or_true, false_or, or_false, not_true_eq_false, not_false_eq_true, and_self, or_self, eq_self, ite_self, decide_true, decide_false, Bool.true_and, Bool.and_true, Bool.and_self, Bool.false_and, Int.add_zero, Int.zero_add, ax_rw, if_pos, if_neg, ax_o_1, kr_1_0, kr_1_1, kr_1_2, kr_1_3, kr_1_4, kr_1_5, kr_1_6, kr_1_7, kr_1_9, kr_1_10, kr_1_11, kr_1_12, kr_1_13, kr_1_14, ax_a_419, ax_o_2, kr_2_0, kr_2_1, kr_2_2, kr_2_3, kr_2_4, ax_a_3, ax_a_4, ax_a_5, ax_a_6, ax_a_7, c7, ax_b0, c110, c111]
      (repeat' split) <;> first | rfl | (exfalso; omega)
    · rw [aq_198]
      simp (disch := first | assumption | omega) only [ax_gt, ax_gi, Option.bind_some, ax_gbl, ax_gb2, ax_gd, Int.reduceEq, Int.reduceNe, Int.reduceLT, Int.reduceLE, Int.reduceAdd, Int.reduceSub, Int.reduceMul, Int.reduceNeg, reduceIte, ite_true, ite_false, true_and, and_true, false_and, and_false, true_or, or_true, false_or, or_false, not_true_eq_false, not_false_eq_true, and_self, or_self, eq_self, ite_self, decide_true, decide_false, Bool.true_and, Bool.and_true, Bool.and_self, Bool.false_and, Int.add_zero, Int.zero_add, ax_rw, if_pos, if_neg, ax_w32, ax_o_447, ax_a_448, kr_447_0, m143, ax_b0]
      (repeat' split) <;> first | rfl | (exfalso; omega)
  · refine ⟨-1, M, M, ?_, ?_, a⟩
    · rw [aq_188]
      simp (disch := first | assumption | omega) only [ax_gt, ax_gi, Option.bind_some, ax_gbl, ax_gb2, ax_gd, Int.reduceEq, Int.reduceNe, Int.reduceLT, Int.reduceLE, Int.reduceAdd, Int.reduceSub, Int.reduceMul, Int.reduceNeg, reduceIte, ite_true, ite_false, true_and, and_true, false_and, and_false, true_or, or_true, false_or, or_false, not_true_eq_false, not_false_eq_true, and_self, or_self, eq_self, ite_self, decide_true, decide_false, Bool.true_and, Bool.and_true, Bool.and_self, Bool.false_and, Int.add_zero, Int.zero_add, ax_rw, if_pos, if_neg, ax_o_1, kr_1_0, kr_1_1, kr_1_2, kr_1_3, kr_1_4, kr_1_5, kr_1_6, kr_1_7, kr_1_9, kr_1_10, kr_1_11, kr_1_12, kr_1_13, kr_1_14, ax_a_419, ax_o_2, kr_2_0, kr_2_1, kr_2_2, kr_2_3, kr_2_4, ax_a_3, ax_a_4, ax_a_5, ax_a_6, ax_a_7, c7, ax_b0]
    · rw [aq_198]
      simp (disch := first | assumption | omega) only [ax_gt, ax_gi, Option.bind_some, ax_gbl, ax_gb2, ax_gd, Int.reduceEq, Int.reduceNe, Int.reduceLT, Int.reduceLE, Int.reduceAdd, Int.reduceSub, Int.reduceMul, Int.reduceNeg, reduceIte, ite_true, ite_false, true_and, and_true, false_and, and_false, true_or, or_true, false_or, or_false, not_true_eq_false, not_false_eq_true, and_self, or_self, eq_self, ite_self, decide_true, decide_false, Bool.true_and, Bool.and_true, Bool.and_self, Bool.false_and, Int.add_zero, Int.zero_add, ax_rw, if_pos, if_neg, ax_o_447, m143, ax_b0]
theorem op_hand (a : RR M) {m t w : Int} : OP d M 214 255 [(0, m), (0, t), (0, w)] := by
  have hK := a.1
  have gB := RR_gB a
  have mB := RR_mB a
  have g := a.2.1.1
  have hT := a.2.1.2.1.1.1
  have hn := a.2.1.2.1.1.2.1
  have C := RR_C a
  have B := RR_H a
  have hh : (8 : Int) = 8 ∨ (8 : Int) = 425 := Or.inl rfl
  obtain ⟨P, W, cd, E, E2, S⟩ := RR_env a
  have c107 := fun d => c_107 (d := d) (m := m) (t := t) hK gB
  rw [g.1.1, g.1.2.1] at c107
  have m143 := fun d => m_143 (d := d) (t := t) hK mB
  have m144 := fun d => m_144 (d := d) (t := m) hK mB
  by_cases hm : 0 ≤ m ∧ m < am_rd M 448 1
  by_cases ht : 0 ≤ t ∧ t < am_rd M 448 0
  · have e114 := c_114 (d := d) (m := m) (t := t) hK hh C hm.1 (by omega) ht.1 (by omega)
    have e115 := c_115 (d := d) (m := m) (t := t) hK hh C hm.1 (by omega) ht.1 (by omega)
    have e116 := c_116 (d := d) (m := m) (t := t) hK hh C hm.1 (by omega) ht.1 (by omega)
    obtain ⟨v1, M1, k1, q1, f1⟩ := c_174 (d := d) (l := 1) (k := 0) hK hh C E S B hm.1 hm.2 ht.1 (by omega) (by omega) (by omega) (by omega) (by omega)
    obtain ⟨v2, M2, k2, q2, f2⟩ := c_174 (d := d) (l := 2) (k := 0) hK hh C E S B hm.1 hm.2 ht.1 (by omega) (by omega) (by omega) (by omega) (by omega)
    refine OP_ro (r := if w = 0 then fl M 448 60 (8 * m + t) else if w = 1 then fl M 448 60 (48 + (8 * m + t)) else if w = 2 then fl M 448 60 (96 + (8 * m + t)) else if w = 3 then v1 else if w = 4 then v2 else -100) a ?_ rfl ?_ rfl
    · rw [aq_214]
      simp (disch := first | assumption | omega) only [ax_gt, ax_gi, Option.bind_some, ax_gbl, ax_gb2, ax_gd, Int.reduceEq, Int.reduceNe, Int.reduceLT, Int.reduceLE, Int.reduceAdd, Int.reduceSub, Int.reduceMul, Int.reduceNeg, reduceIte, ite_true, ite_false, true_and, and_true, false_and, and_false, true_or, or_true, false_or, or_false, not_true_eq_false, not_false_eq_true, and_self, or_self, eq_self, ite_self, decide_true, decide_false, Bool.true_and, Bool.and_true, Bool.and_self, Bool.false_and, Int.add_zero, Int.zero_add, ax_rw, if_pos, if_neg, ax_o_1, kr_1_0, kr_1_1, kr_1_2, kr_1_3, kr_1_4, kr_1_5, kr_1_6, kr_1_7, kr_1_9, kr_1_10, kr_1_11, kr_1_12, kr_1_13, kr_1_14, ax_a_419, ax_o_2, kr_2_0, kr_2_1, kr_2_2, kr_2_3, kr_2_4, ax_a_3, ax_a_4, ax_a_5, ax_a_6, ax_a_7, ax_o_8, kr_8_0, kr_8_1, kr_8_2, kr_8_3, kr_8_4, ax_a_9, ax_a_10, ax_a_11, ax_a_12, ax_a_13, c107, ax_b0, e114, e115, e116, k1, k2]
      (repeat' split) <;> first | exact ax_ok_some ⟨rfl, fun _ _ _ => rfl⟩ | exact ax_ok_some ⟨rfl, JF_jk f1⟩ | exact ax_ok_some ⟨rfl, JF_jk f2⟩
    · intro N a' f
      have F : FH N 448 60 (fl M 448 60) := fun j _ _ => f _ _ (by unfold jk; omega)
      have E3 : ME N (am_rd M 448 0) (am_rd M 448 1) (am_rd M 448 7) P W cd := ME_same E2 fun c i hc => f c i (by unfold jk; omega)
      have m143 := fun d => m_143 (d := d) (t := t) a'.1 (RR_mB a')
      have m144 := fun d => m_144 (d := d) (t := m) a'.1 (RR_mB a')
      rw [f 448 0 (by unfold jk; omega)] at m143
      rw [f 448 1 (by unfold jk; omega)] at m144
      obtain ⟨x1, N1, y1, C1, F1⟩ := m_88 (d := d) a'.1 F
      have hK1 := ax_Kp y1 a'.1 rfl
      obtain ⟨u1, N2, k3, q3, f3⟩ := m_222 (d := d) hK1 C1 (NF_ME E3 F1) S B hm.1 (by omega) ht.1 (by omega)
      obtain ⟨u2, N3, k4, q4, f4⟩ := m_223 (d := d) hK1 C1 (NF_ME E3 F1) S B hm.1 (by omega) ht.1 (by omega)
      have z1 := C1.1 (8 * m + t) (by omega) (by omega)
      have z2 := C1.2.1 (8 * m + t) (by omega) (by omega)
      have z3 := C1.2.2.1 (8 * m + t) (by omega) (by omega)
      have g1 : u1 = v1 := q3.trans q1.symm
      have g2 : u2 = v2 := q4.trans q2.symm
      subst g1 g2
      have hK' := a'.1
      rw [aq_255]
      simp (disch := first | assumption | omega) only [ax_gt, ax_gi, Option.bind_some, ax_gbl, ax_gb2, ax_gd, Int.reduceEq, Int.reduceNe, Int.reduceLT, Int.reduceLE, Int.reduceAdd, Int.reduceSub, Int.reduceMul, Int.reduceNeg, reduceIte, ite_true, ite_false, true_and, and_true, false_and, and_false, true_or, or_true, false_or, or_false, not_true_eq_false, not_false_eq_true, and_self, or_self, eq_self, ite_self, decide_true, decide_false, Bool.true_and, Bool.and_true, Bool.and_self, Bool.false_and, Int.add_zero, Int.zero_add, ax_rw, if_pos, if_neg, ax_w32, ax_let, ax_o_447, ax_a_448, kr_447_0, ax_a_472, kr_447_41, ax_a_473, kr_447_42, ax_a_474, kr_447_43, m143, m144, ax_b0, y1, z1, z2, z3, k3, k4]
      (repeat' split) <;> first | exact ax_ok_some ⟨rfl, NF_jk F1⟩ | exact ax_ok_some ⟨rfl, NF_jk (NF_trans F1 (JF_NF f3))⟩ | exact ax_ok_some ⟨rfl, NF_jk (NF_trans F1 (JF_NF f4))⟩
  · refine ⟨-100, M, M, ?_, ?_, a⟩
    · rw [aq_214]
      simp (disch := first | assumption | omega) only [ax_gt, ax_gi, Option.bind_some, ax_gbl, ax_gb2, ax_gd, Int.reduceEq, Int.reduceNe, Int.reduceLT, Int.reduceLE, Int.reduceAdd, Int.reduceSub, Int.reduceMul, Int.reduceNeg, reduceIte, ite_true, ite_false, true_and, and_true, false_and, and_false, true_or, or_true, false_or, or_false, not_true_eq_false, not_false_eq_true, and_self, or_self, eq_self, ite_self, decide_true, decide_false, Bool.true_and, Bool.and_true, Bool.and_self, Bool.false_and, Int.add_zero, Int.zero_add, ax_rw, if_pos, if_neg, ax_o_1, kr_1_0, kr_1_1, kr_1_2, kr_1_3, kr_1_4, kr_1_5, kr_1_6, kr_1_7, kr_1_9, kr_1_10, kr_1_11, kr_1_12, kr_1_13, kr_1_14, ax_a_419, ax_o_2, kr_2_0, kr_2_1, kr_2_2, kr_2_3, kr_2_4, ax_a_3, ax_a_4, ax_a_5, ax_a_6, ax_a_7, ax_o_8, kr_8_0, kr_8_1, kr_8_2, kr_8_3, kr_8_4, ax_a_9, ax_a_10, ax_a_11, ax_a_12, ax_a_13, c107, ax_b0]
    · rw [aq_255]
      simp (disch := first | assumption | omega) only [ax_gt, ax_gi, Option.bind_some, ax_gbl, ax_gb2, ax_gd, Int.reduceEq, Int.reduceNe, Int.reduceLT, Int.reduceLE, Int.reduceAdd, Int.reduceSub, Int.reduceMul, Int.reduceNeg, reduceIte, ite_true, ite_false, true_and, and_true, false_and, and_false, true_or, or_true, false_or, or_false, not_true_eq_false, not_false_eq_true, and_self, or_self, eq_self, ite_self, decide_true, decide_false, Bool.true_and, Bool.and_true, Bool.and_self, Bool.false_and, Int.add_zero, Int.zero_add, ax_rw, if_pos, if_neg, ax_o_447, m143, m144, ax_b0]
  · refine ⟨-100, M, M, ?_, ?_, a⟩
    · rw [aq_214]
      simp (disch := first | assumption | omega) only [ax_gt, ax_gi, Option.bind_some, ax_gbl, ax_gb2, ax_gd, Int.reduceEq, Int.reduceNe, Int.reduceLT, Int.reduceLE, Int.reduceAdd, Int.reduceSub, Int.reduceMul, Int.reduceNeg, reduceIte, ite_true, ite_false, true_and, and_true, false_and, and_false, true_or, or_true, false_or, or_false, not_true_eq_false, not_false_eq_true, and_self, or_self, eq_self, ite_self, decide_true, decide_false, Bool.true_and, Bool.and_true, Bool.and_self, Bool.false_and, Int.add_zero, Int.zero_add, ax_rw, if_pos, if_neg, ax_o_1, kr_1_0, kr_1_1, kr_1_2, kr_1_3, kr_1_4, kr_1_5, kr_1_6, kr_1_7, kr_1_9, kr_1_10, kr_1_11, kr_1_12, kr_1_13, kr_1_14, ax_a_419, ax_o_2, kr_2_0, kr_2_1, kr_2_2, kr_2_3, kr_2_4, ax_a_3, ax_a_4, ax_a_5, ax_a_6, ax_a_7, ax_o_8, kr_8_0, kr_8_1, kr_8_2, kr_8_3, kr_8_4, ax_a_9, ax_a_10, ax_a_11, ax_a_12, ax_a_13, c107, ax_b0]
    · rw [aq_255]
      simp (disch := first | assumption | omega) only [ax_gt, ax_gi, Option.bind_some, ax_gbl, ax_gb2, ax_gd, Int.reduceEq, Int.reduceNe, Int.reduceLT, Int.reduceLE, Int.reduceAdd, Int.reduceSub, Int.reduceMul, Int.reduceNeg, reduceIte, ite_true, ite_false, true_and, and_true, false_and, and_false, true_or, or_true, false_or, or_false, not_true_eq_false, not_false_eq_true, and_self, or_self, eq_self, ite_self, decide_true, decide_false, Bool.true_and, Bool.and_true, Bool.and_self, Bool.false_and, Int.add_zero, Int.zero_add, ax_rw, if_pos, if_neg, ax_o_447, m143, m144, ax_b0]
theorem op_of (a : RR M) {m w : Int} : OP d M 243 267 [(0, m), (0, w)] := by
  have hK := a.1
  have gB := RR_gB a
  have mB := RR_mB a
  have g := a.2.1.1
  have hT := a.2.1.2.1.1.1
  have hn := a.2.1.2.1.1.2.1
  have C := RR_C a
  have B := RR_H a
  have hh : (8 : Int) = 8 ∨ (8 : Int) = 425 := Or.inl rfl
  obtain ⟨P, W, cd, E, E2, S⟩ := RR_env a
  have c8 := fun d => c_8 (d := d) (t := m) hK gB
  rw [g.1.2.1] at c8
  have m144 := fun d => m_144 (d := d) (t := m) hK mB
  by_cases hm : 0 ≤ m ∧ m < am_rd M 448 1
  · have e112 := fun d => c_112 (d := d) (t := m) hK gB hm.1 (by have := g.1.2.1; omega)
    have q1 := g.2.2.2.1 m hm.1 (by omega)
    simp only [Int.reduceEq, Int.reduceNe, Int.reduceLT, Int.reduceLE, Int.reduceAdd, Int.reduceSub, Int.reduceMul, Int.reduceNeg, reduceIte, ite_true, ite_false, true_and, and_true, false_and, and_false, true_or, or_true, false_or, or_false, not_true_eq_false, not_false_eq_true, and_self, or_self, eq_self, ite_self, decide_true, decide_false, Bool.true_and, Bool.and_true, Bool.and_self, Bool.false_and, Int.add_zero, Int.zero_add] at q1
    rw [q1] at e112
    have e28 := c_28 (d := d) (m := m) hK hh C hm.1 (by omega)
    have e24 := c_24 (d := d) (m := m) hK hh C hm.1 (by omega)
    have e25 := c_25 (d := d) (m := m) hK hh C hm.1 (by omega)
    have bf := B.2.1 m hm.1 (by omega)
    obtain ⟨v1, M1, k1, q2, f1⟩ := c_209 (d := d) hK hh C E S B hm.1 hm.2
    refine OP_ro (r := if w = 0 then am_rd M 448 (26 + m) else if w = 1 then v1 else if w = 2 then fl M 448 60 (144 + m) else if w = 3 then fl M 448 60 (150 + m) else if w = 4 then fl M 448 60 (156 + m) else -2) a ?_ rfl ?_ rfl
    · rw [aq_243]
      simp (disch := first | assumption | omega) only [ax_gt, ax_gi, Option.bind_some, ax_gbl, ax_gb2, ax_gd, Int.reduceEq, Int.reduceNe, Int.reduceLT, Int.reduceLE, Int.reduceAdd, Int.reduceSub, Int.reduceMul, Int.reduceNeg, reduceIte, ite_true, ite_false, true_and, and_true, false_and, and_false, true_or, or_true, false_or, or_false, not_true_eq_false, not_false_eq_true, and_self, or_self, eq_self, ite_self, decide_true, decide_false, Bool.true_and, Bool.and_true, Bool.and_self, Bool.false_and, Int.add_zero, Int.zero_add, ax_rw, if_pos, if_neg, ax_o_1, kr_1_0, kr_1_1, kr_1_2, kr_1_3, kr_1_4, kr_1_5, kr_1_6, kr_1_7, kr_1_9, kr_1_10, kr_1_11, kr_1_12, kr_1_13, kr_1_14, ax_a_419, ax_o_2, kr_2_0, kr_2_1, kr_2_2, kr_2_3, kr_2_4, ax_a_3, ax_a_4, ax_a_5, ax_a_6, ax_a_7, ax_o_8, kr_8_0, kr_8_1, kr_8_2, kr_8_3, kr_8_4, ax_a_9, ax_a_10, ax_a_11, ax_a_12, ax_a_13, c8, ax_b0, e112, e28, e24, e25, k1]
      (repeat' split) <;> first | exact ax_ok_some ⟨rfl, fun _ _ _ => rfl⟩ | exact ax_ok_some ⟨rfl, JF_jk f1⟩ | exact ax_ok_some ⟨by omega, fun _ _ _ => rfl⟩
    · intro N a' f
      have F : FH N 448 60 (fl M 448 60) := fun j _ _ => f _ _ (by unfold jk; omega)
      have E3 : ME N (am_rd M 448 0) (am_rd M 448 1) (am_rd M 448 7) P W cd := ME_same E2 fun c i hc => f c i (by unfold jk; omega)
      have m144 := fun d => m_144 (d := d) (t := m) a'.1 (RR_mB a')
      rw [f 448 1 (by unfold jk; omega)] at m144
      obtain ⟨x1, N1, y1, C1, F1⟩ := m_88 (d := d) a'.1 F
      have hK1 := ax_Kp y1 a'.1 rfl
      obtain ⟨u1, N2, k3, q3, f3⟩ := m_251 (d := d) hK1 C1 (NF_ME E3 F1) S B hm.1 (by omega)
      have z1 := C1.2.2.2.1 m hm.1 (by omega)
      have z2 := C1.2.2.2.2.1 m hm.1 (by omega)
      have z3 := C1.2.2.2.2.2.1 m hm.1 (by omega)
      have z4 : am_rd N1 448 (26 + m) = am_rd M 448 (26 + m) := (F1 _ _ (by omega) (by omega) (by omega) (by omega)).trans (f _ _ (by unfold jk; omega))
      have g1 : u1 = v1 := q3.trans q2.symm
      subst g1
      have hK' := a'.1
      rw [aq_267]
      simp (disch := first | assumption | omega) only [ax_gt, ax_gi, Option.bind_some, ax_gbl, ax_gb2, ax_gd, Int.reduceEq, Int.reduceNe, Int.reduceLT, Int.reduceLE, Int.reduceAdd, Int.reduceSub, Int.reduceMul, Int.reduceNeg, reduceIte, ite_true, ite_false, true_and, and_true, false_and, and_false, true_or, or_true, false_or, or_false, not_true_eq_false, not_false_eq_true, and_self, or_self, eq_self, ite_self, decide_true, decide_false, Bool.true_and, Bool.and_true, Bool.and_self, Bool.false_and, Int.add_zero, Int.zero_add, ax_rw, if_pos, if_neg, ax_w32, ax_let, ax_o_447, ax_a_448, kr_447_0, ax_a_475, kr_447_44, ax_a_476, kr_447_45, ax_a_477, kr_447_46, m144, ax_b0, y1, z1, z2, z3, z4, k3]
      (repeat' split) <;> first | exact ax_ok_some ⟨rfl, NF_jk F1⟩ | exact ax_ok_some ⟨rfl, NF_jk (NF_trans F1 (JF_NF f3))⟩
  · refine ⟨-2, M, M, ?_, ?_, a⟩
    · rw [aq_243]
      simp (disch := first | assumption | omega) only [ax_gt, ax_gi, Option.bind_some, ax_gbl, ax_gb2, ax_gd, Int.reduceEq, Int.reduceNe, Int.reduceLT, Int.reduceLE, Int.reduceAdd, Int.reduceSub, Int.reduceMul, Int.reduceNeg, reduceIte, ite_true, ite_false, true_and, and_true, false_and, and_false, true_or, or_true, false_or, or_false, not_true_eq_false, not_false_eq_true, and_self, or_self, eq_self, ite_self, decide_true, decide_false, Bool.true_and, Bool.and_true, Bool.and_self, Bool.false_and, Int.add_zero, Int.zero_add, ax_rw, if_pos, if_neg, ax_o_1, kr_1_0, kr_1_1, kr_1_2, kr_1_3, kr_1_4, kr_1_5, kr_1_6, kr_1_7, kr_1_9, kr_1_10, kr_1_11, kr_1_12, kr_1_13, kr_1_14, ax_a_419, ax_o_2, kr_2_0, kr_2_1, kr_2_2, kr_2_3, kr_2_4, ax_a_3, ax_a_4, ax_a_5, ax_a_6, ax_a_7, ax_o_8, kr_8_0, kr_8_1, kr_8_2, kr_8_3, kr_8_4, ax_a_9, ax_a_10, ax_a_11, ax_a_12, ax_a_13, c8, ax_b0]
    · rw [aq_267]
      simp (disch := first | assumption | omega) only [ax_gt, ax_gi, Option.bind_some, ax_gbl, ax_gb2, ax_gd, Int.reduceEq, Int.reduceNe, Int.reduceLT, Int.reduceLE, Int.reduceAdd, Int.reduceSub, Int.reduceMul, Int.reduceNeg, reduceIte, ite_true, ite_false, true_and, and_true, false_and, and_false, true_or, or_true, false_or, or_false, not_true_eq_false, not_false_eq_true, and_self, or_self, eq_self, ite_self, decide_true, decide_false, Bool.true_and, Bool.and_true, Bool.and_self, Bool.false_and, Int.add_zero, Int.zero_add, ax_rw, if_pos, if_neg, ax_o_447, m144, ax_b0]
end
