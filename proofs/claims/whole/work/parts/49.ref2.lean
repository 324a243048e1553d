/-! the model's steps, copies, men, drink, smells -/
section
variable {M : am_M} {d : Nat} {T n al m t k : Int} {P W H : Int → Int} {cd : Int → Option (List (Int × Int))}
theorem m_68 (hK : ax_K M) (c0 : 0 ≤ am_rd M 448 5) (c1 : am_rd M 448 5 ≤ 30) {q : Int} (hq : q = min (am_rd M 448 5) 29) : ax_ok (am_Call d 68 [(2, 447)] M) (fun _ M' => ∀ c i, am_rd M' c i = if c = 448 then (if i = 5 then q + 1 else if 240 + 164 * q ≤ i ∧ i < 404 + 164 * q then am_rd M 448 (i - 180 - 164 * q) else if am_rd M 448 5 = 30 ∧ 240 ≤ i ∧ i < 4996 then am_rd M 448 (i + 164) else am_rd M 448 i) else am_rd M c i) := by
  have part2 : ∀ (m' : am_M), ax_K m' → (∀ c i, am_rd m' c i = if c = 448 then (if i = 5 then q else if am_rd M 448 5 = 30 ∧ 240 ≤ i ∧ i < 4996 then am_rd M 448 (i + 164) else am_rd M 448 i) else am_rd M c i) → ax_ok (am_Ex d 68 30 [(2, 447), am_N] [] m') (fun _ M' => ∀ c i, am_rd M' c i = if c = 448 then (if i = 5 then q + 1 else if 240 + 164 * q ≤ i ∧ i < 404 + 164 * q then am_rd M 448 (i - 180 - 164 * q) else if am_rd M 448 5 = 30 ∧ 240 ≤ i ∧ i < 4996 then am_rd M 448 (i + 164) else am_rd M 448 i) else am_rd M c i) := by
    intro m' hK' hr
    rw [aq_68_30]
    refine ax_loopQ (σ := Unit) (X := fun k _ m2 => am_Ex d 68 33 [(2, 447), (0, k)] [] m2) (n := 164) (fun k _ m2 => 0 ≤ k ∧ ax_K m2 ∧ ∀ c i, am_rd m2 c i = if c = 448 ∧ 240 + 164 * q ≤ i ∧ i < 240 + 164 * q + k then am_rd M 448 (i - 180 - 164 * q) else am_rd m' c i) ?_ ?_ ((164 : Int) - 0).toNat 0 () m' (by omega) ⟨by omega, hK', fun c i => ?_⟩
    · intro k _ m2 ⟨k0, hK2, hr2⟩ k1 hnext
      have g5 : am_rd m2 448 5 = q := by
        rw [hr2, if_neg (by omega), hr]; simp only [Int.reduceEq, Int.reduceNe, Int.reduceLT, Int.reduceLE, Int.reduceAdd, Int.reduceSub, Int.reduceMul, Int.reduceNeg, reduceIte, ite_true, ite_false, true_and, and_true, false_and, and_false, true_or, or_true, false_or, or_false, not_true_eq_false, not_false_eq_true, and_self, or_self, eq_self, ite_self, decide_true, decide_false, Bool.true_and, Bool.and_true, Bool.and_self, Bool.false_and, Int.add_zero, Int.zero_add]
      have g1 : am_rd m2 448 (60 + k) = am_rd M 448 (60 + k) := by
        rw [hr2, if_neg (by omega), hr]; simp (disch := omega) only [Int.reduceEq, Int.reduceNe, Int.reduceLT, Int.reduceLE, Int.reduceAdd, Int.reduceSub, Int.reduceMul, Int.reduceNeg, reduceIte, ite_true, ite_false, true_and, and_true, false_and, and_false, true_or, or_true, false_or, or_false, not_true_eq_false, not_false_eq_true, and_self, or_self, eq_self, ite_self, decide_true, decide_false, Bool.true_and, Bool.and_true, Bool.and_self, Bool.false_and, Int.add_zero, Int.zero_add, if_neg]
      have key : am_Ex d 68 33 [(2, 447), (0, k)] [] m2 = am_Ex d 68 33 [(2, 447), (0, k + 1)] [] (am_wr m2 448 (240 + 164 * q + k) (am_rd M 448 (60 + k))) := by
        rw [aq_68_33]
        simp (disch := first | assumption | omega) only [ax_gt, ax_gi, Option.bind_some, ax_gbl, ax_gb2, ax_gd, Int.reduceEq, Int.reduceNe, Int.reduceLT, Int.reduceLE, Int.reduceAdd, Int.reduceSub, Int.reduceMul, Int.reduceNeg, reduceIte, ite_true, ite_false, true_and, and_true, false_and, and_false, true_or, or_true, false_or, or_false, not_true_eq_false, not_false_eq_true, and_self, or_self, eq_self, ite_self, decide_true, decide_false, Bool.true_and, Bool.and_true, Bool.and_self, Bool.false_and, Int.add_zero, Int.zero_add, ax_rw, if_pos, if_neg, ax_w32, ax_let, ax_o_447, ax_a_448, kr_447_0, g5, g1]
      show ax_ok (am_Ex d 68 33 _ _ _) _
      rw [key]
      refine hnext () _ ⟨by omega, ax_Kw hK2 rfl, fun c i => ?_⟩
      rw [ax_rw, hr2]
      (repeat' split) <;> first | rfl | (exfalso; omega) | (congr 1 <;> omega)
    · intro _ m2 ⟨k0, hK2, hr2⟩
      have g5 : am_rd m2 448 5 = q := by
        rw [hr2, if_neg (by omega), hr]; simp only [Int.reduceEq, Int.reduceNe, Int.reduceLT, Int.reduceLE, Int.reduceAdd, Int.reduceSub, Int.reduceMul, Int.reduceNeg, reduceIte, ite_true, ite_false, true_and, and_true, false_and, and_false, true_or, or_true, false_or, or_false, not_true_eq_false, not_false_eq_true, and_self, or_self, eq_self, ite_self, decide_true, decide_false, Bool.true_and, Bool.and_true, Bool.and_self, Bool.false_and, Int.add_zero, Int.zero_add]
      show ax_ok (am_Ex d 68 33 _ _ _) _
      rw [aq_68_33]
      simp (disch := first | assumption | omega) only [ax_gt, ax_gi, Option.bind_some, ax_gbl, ax_gb2, ax_gd, Int.reduceEq, Int.reduceNe, Int.reduceLT, Int.reduceLE, Int.reduceAdd, Int.reduceSub, Int.reduceMul, Int.reduceNeg, reduceIte, ite_true, ite_false, true_and, and_true, false_and, and_false, true_or, or_true, false_or, or_false, not_true_eq_false, not_false_eq_true, and_self, or_self, eq_self, ite_self, decide_true, decide_false, Bool.true_and, Bool.and_true, Bool.and_self, Bool.false_and, Int.add_zero, Int.zero_add, ax_rw, if_pos, if_neg, ax_w32, ax_let, ax_o_447, ax_a_448, kr_447_0, g5]
      refine ax_ok_some fun c i => ?_
      rw [ax_rw, hr2, hr]
      (repeat' split) <;> first | rfl | (exfalso; omega) | (congr 1 <;> omega)
    · rw [if_neg (by omega)]
  rw [aq_68]
  by_cases h30 : am_rd M 448 5 = 30
  · simp (disch := first | assumption | omega) only [ax_gt, ax_gi, Option.bind_some, ax_gbl, ax_gb2, ax_gd, Int.reduceEq, Int.reduceNe, Int.reduceLT, Int.reduceLE, Int.reduceAdd, Int.reduceSub, Int.reduceMul, Int.reduceNeg, reduceIte, ite_true, ite_false, true_and, and_true, false_and, and_false, true_or, or_true, false_or, or_false, not_true_eq_false, not_false_eq_true, and_self, or_self, eq_self, ite_self, decide_true, decide_false, Bool.true_and, Bool.and_true, Bool.and_self, Bool.false_and, Int.add_zero, Int.zero_add, ax_rw, if_pos, if_neg, ax_o_447, ax_a_448, kr_447_0, h30]
    refine ax_loopQ (σ := Unit) (X := fun k _ m2 => am_Ex d 68 9 [(2, 447), (0, k)] [] m2) (n := 4996) (fun k _ m2 => 240 ≤ k ∧ ax_K m2 ∧ ∀ c i, am_rd m2 c i = if c = 448 ∧ 240 ≤ i ∧ i < k then am_rd M 448 (i + 164) else am_rd M c i) ?_ ?_ ((4996 : Int) - 240).toNat 240 () M (by omega) ⟨by omega, hK, fun c i => ?_⟩
    · intro k _ m2 ⟨k0, hK2, hr2⟩ k1 hnext
      have g1 : am_rd m2 448 (k + 164) = am_rd M 448 (k + 164) := by rw [hr2, if_neg (by omega)]
      have key : am_Ex d 68 9 [(2, 447), (0, k)] [] m2 = am_Ex d 68 9 [(2, 447), (0, k + 1)] [] (am_wr m2 448 k (am_rd M 448 (k + 164))) := by
        rw [aq_68_9]
        simp (disch := first | assumption | omega) only [ax_gt, ax_gi, Option.bind_some, ax_gbl, ax_gb2, ax_gd, Int.reduceEq, Int.reduceNe, Int.reduceLT, Int.reduceLE, Int.reduceAdd, Int.reduceSub, Int.reduceMul, Int.reduceNeg, reduceIte, ite_true, ite_false, true_and, and_true, false_and, and_false, true_or, or_true, false_or, or_false, not_true_eq_false, not_false_eq_true, and_self, or_self, eq_self, ite_self, decide_true, decide_false, Bool.true_and, Bool.and_true, Bool.and_self, Bool.false_and, Int.add_zero, Int.zero_add, ax_rw, if_pos, if_neg, ax_w32, ax_let, ax_o_447, ax_a_448, kr_447_0, g1]
      show ax_ok (am_Ex d 68 9 _ _ _) _
      rw [key]
      refine hnext () _ ⟨by omega, ax_Kw hK2 rfl, fun c i => ?_⟩
      rw [ax_rw, hr2]
      (repeat' split) <;> first | rfl | (exfalso; omega) | (congr 1 <;> omega)
    · intro _ m2 ⟨k0, hK2, hr2⟩
      show ax_ok (am_Ex d 68 9 _ _ _) _
      rw [aq_68_9]
      simp (disch := first | assumption | omega) only [ax_gt, ax_gi, Option.bind_some, ax_gbl, ax_gb2, ax_gd, Int.reduceEq, Int.reduceNe, Int.reduceLT, Int.reduceLE, Int.reduceAdd, Int.reduceSub, Int.reduceMul, Int.reduceNeg, reduceIte, ite_true, ite_false, true_and, and_true, false_and, and_false, true_or, or_true, false_or, or_false, not_true_eq_false, not_false_eq_true, and_self, or_self, eq_self, ite_self, decide_true, decide_false, Bool.true_and, Bool.and_true, Bool.and_self, Bool.false_and, Int.add_zero, Int.zero_add, ax_rw, if_pos, if_neg, ax_w32, ax_let, ax_o_447, ax_a_448, kr_447_0]
      have := part2 (am_wr m2 448 5 29) (ax_Kw hK2 rfl) (fun c i => by
        rw [ax_rw, hr2]
        (repeat' split) <;> first | rfl | (exfalso; omega) | (congr 1 <;> omega) | omega)
      simpa only [h30, true_and] using this
    · rw [if_neg (by omega)]
  · simp (disch := first | assumption | omega) only [ax_gt, ax_gi, Option.bind_some, ax_gbl, ax_gb2, ax_gd, Int.reduceEq, Int.reduceNe, Int.reduceLT, Int.reduceLE, Int.reduceAdd, Int.reduceSub, Int.reduceMul, Int.reduceNeg, reduceIte, ite_true, ite_false, true_and, and_true, false_and, and_false, true_or, or_true, false_or, or_false, not_true_eq_false, not_false_eq_true, and_self, or_self, eq_self, ite_self, decide_true, decide_false, Bool.true_and, Bool.and_true, Bool.and_self, Bool.false_and, Int.add_zero, Int.zero_add, ax_rw, if_pos, if_neg, ax_o_447, ax_a_448, kr_447_0, h30]
    have := part2 M hK (fun c i => by
      (repeat' split) <;> first | rfl | (exfalso; omega) | (congr 1 <;> omega) | (subst_vars; omega))
    simpa only [h30, false_and, if_false] using this
theorem m_69 (hK : ax_K M) (c0 : 1 ≤ am_rd M 448 5) (c1 : am_rd M 448 5 ≤ 30) {q : Int} (hq : q = am_rd M 448 5 - 1) : ax_ok (am_Call d 69 [(2, 447)] M) (fun r M' => r = q ∧ ∀ c i, am_rd M' c i = if c = 448 then (if i = 5 then q else if 60 ≤ i ∧ i < 224 then am_rd M 448 (i + 180 + 164 * q) else am_rd M 448 i) else am_rd M c i) := by
  rw [aq_69]
  simp (disch := first | assumption | omega) only [ax_gt, ax_gi, Option.bind_some, ax_gbl, ax_gb2, ax_gd, Int.reduceEq, Int.reduceNe, Int.reduceLT, Int.reduceLE, Int.reduceAdd, Int.reduceSub, Int.reduceMul, Int.reduceNeg, reduceIte, ite_true, ite_false, true_and, and_true, false_and, and_false, true_or, or_true, false_or, or_false, not_true_eq_false, not_false_eq_true, and_self, or_self, eq_self, ite_self, decide_true, decide_false, Bool.true_and, Bool.and_true, Bool.and_self, Bool.false_and, Int.add_zero, Int.zero_add, ax_rw, if_pos, if_neg, ax_w32, ax_let, ax_o_447, ax_a_448, kr_447_0]
  rw [← hq]
  have K0 : ax_K (am_wr M 448 5 q) := ax_Kw hK rfl
  refine ax_loopQ (σ := Unit) (X := fun k _ m2 => am_Ex d 69 18 [(2, 447), (0, k)] [] m2) (n := 164) (fun k _ m2 => 0 ≤ k ∧ ax_K m2 ∧ ∀ c i, am_rd m2 c i = if c = 448 then (if i = 5 then q else if 60 ≤ i ∧ i < 60 + k then am_rd M 448 (i + 180 + 164 * q) else am_rd M 448 i) else am_rd M c i) ?_ ?_ ((164 : Int) - 0).toNat 0 () _ (by omega) ⟨by omega, K0, fun c i => ?_⟩
  · intro k _ m2 ⟨k0, hK2, hr2⟩ k1 hnext
    have g5 : am_rd m2 448 5 = q := by rw [hr2]; simp only [Int.reduceEq, Int.reduceNe, Int.reduceLT, Int.reduceLE, Int.reduceAdd, Int.reduceSub, Int.reduceMul, Int.reduceNeg, reduceIte, ite_true, ite_false, true_and, and_true, false_and, and_false, true_or, or_true, false_or, or_false, not_true_eq_false, not_false_eq_true, and_self, or_self, eq_self, ite_self, decide_true, decide_false, Bool.true_and, Bool.and_true, Bool.and_self, Bool.false_and, Int.add_zero, Int.zero_add]
    have g1 : am_rd m2 448 (240 + 164 * q + k) = am_rd M 448 (240 + 164 * q + k) := by
      rw [hr2]; simp (disch := omega) only [Int.reduceEq, Int.reduceNe, Int.reduceLT, Int.reduceLE, Int.reduceAdd, Int.reduceSub, Int.reduceMul, Int.reduceNeg, reduceIte, ite_true, ite_false, true_and, and_true, false_and, and_false, true_or, or_true, false_or, or_false, not_true_eq_false, not_false_eq_true, and_self, or_self, eq_self, ite_self, decide_true, decide_false, Bool.true_and, Bool.and_true, Bool.and_self, Bool.false_and, Int.add_zero, Int.zero_add, if_neg]
    have key : am_Ex d 69 18 [(2, 447), (0, k)] [] m2 = am_Ex d 69 18 [(2, 447), (0, k + 1)] [] (am_wr m2 448 (60 + k) (am_rd M 448 (240 + 164 * q + k))) := by
      rw [aq_69_18]
      simp (disch := first | assumption | omega) only [ax_gt, ax_gi, Option.bind_some, ax_gbl, ax_gb2, ax_gd, Int.reduceEq, Int.reduceNe, Int.reduceLT, Int.reduceLE, Int.reduceAdd, Int.reduceSub, Int.reduceMul, Int.reduceNeg, reduceIte, ite_true, ite_false, true_and, and_true, false_and, and_false, true_or, or_true, false_or, or_false, not_true_eq_false, not_false_eq_true, and_self, or_self, eq_self, ite_self, decide_true, decide_false, Bool.true_and, Bool.and_true, Bool.and_self, Bool.false_and, Int.add_zero, Int.zero_add, ax_rw, if_pos, if_neg, ax_w32, ax_let, ax_o_447, ax_a_448, kr_447_0, g5, g1]
    show ax_ok (am_Ex d 69 18 _ _ _) _
    rw [key]
    refine hnext () _ ⟨by omega, ax_Kw hK2 rfl, fun c i => ?_⟩
    rw [ax_rw, hr2]
    (repeat' split) <;> first | rfl | (exfalso; omega) | (congr 1 <;> omega)
  · intro _ m2 ⟨k0, hK2, hr2⟩
    have g5 : am_rd m2 448 5 = q := by rw [hr2]; simp only [Int.reduceEq, Int.reduceNe, Int.reduceLT, Int.reduceLE, Int.reduceAdd, Int.reduceSub, Int.reduceMul, Int.reduceNeg, reduceIte, ite_true, ite_false, true_and, and_true, false_and, and_false, true_or, or_true, false_or, or_false, not_true_eq_false, not_false_eq_true, and_self, or_self, eq_self, ite_self, decide_true, decide_false, Bool.true_and, Bool.and_true, Bool.and_self, Bool.false_and, Int.add_zero, Int.zero_add]
    show ax_ok (am_Ex d 69 18 _ _ _) _
    rw [aq_69_18]
    simp (disch := first | assumption | omega) only [ax_gt, ax_gi, Option.bind_some, ax_gbl, ax_gb2, ax_gd, Int.reduceEq, Int.reduceNe, Int.reduceLT, Int.reduceLE, Int.reduceAdd, Int.reduceSub, Int.reduceMul, Int.reduceNeg, reduceIte, ite_true, ite_false, true_and, and_true, false_and, and_false, true_or, or_true, false_or, or_false, not_true_eq_false, not_false_eq_true, and_self, or_self, eq_self, ite_self, decide_true, decide_false, Bool.true_and, Bool.and_true, Bool.and_self, Bool.false_and, Int.add_zero, Int.zero_add, ax_rw, if_pos, if_neg, ax_o_447, ax_a_448, kr_447_0, g5]
    refine ax_ok_some ⟨rfl, fun c i => ?_⟩
    rw [hr2]
    (repeat' split) <;> first | rfl | (exfalso; omega)
  · rw [ax_rw]
    (repeat' split) <;> first | rfl | (exfalso; omega) | (congr 1 <;> omega)
theorem m_69n (hK : ax_K M) (c0 : am_rd M 448 5 = 0) : am_Call d 69 [(2, 447)] M = some (-1, M) := by
  rw [aq_69]
  simp (disch := first | assumption | omega) only [ax_gt, ax_gi, Option.bind_some, ax_gbl, ax_gb2, ax_gd, Int.reduceEq, Int.reduceNe, Int.reduceLT, Int.reduceLE, Int.reduceAdd, Int.reduceSub, Int.reduceMul, Int.reduceNeg, reduceIte, ite_true, ite_false, true_and, and_true, false_and, and_false, true_or, or_true, false_or, or_false, not_true_eq_false, not_false_eq_true, and_self, or_self, eq_self, ite_self, decide_true, decide_false, Bool.true_and, Bool.and_true, Bool.and_self, Bool.false_and, Int.add_zero, Int.zero_add, ax_rw, if_pos, if_neg, ax_o_447, ax_a_448, kr_447_0, c0]
theorem m_67 (hK : ax_K M) {o : Int} (ho : o = 0 ∨ o = 1) : ax_ok (am_Call d 67 [(2, 447), (0, o)] M) (fun _ M' => ∀ c i, am_rd M' c i = if c = 448 + o ∧ 0 ≤ i ∧ i < 5160 then am_rd M (449 - o) i else am_rd M c i) := by
  rw [aq_67]
  refine ax_loopQ (σ := Unit) (X := fun k _ m2 => am_Ex d 67 3 [(2, 447), (0, o), (0, k)] [] m2) (n := 5160) (fun k _ m2 => 0 ≤ k ∧ ax_K m2 ∧ ∀ c i, am_rd m2 c i = if c = 448 + o ∧ 0 ≤ i ∧ i < k then am_rd M (449 - o) i else am_rd M c i) ?_ ?_ ((5160 : Int) - 0).toNat 0 () M (by omega) ⟨by omega, hK, fun c i => ?_⟩
  · intro k _ m2 ⟨k0, hK2, hr2⟩ k1 hnext
    have g1 : am_rd m2 (449 - o) k = am_rd M (449 - o) k := by rw [hr2, if_neg (by omega)]
    have key : am_Ex d 67 3 [(2, 447), (0, o), (0, k)] [] m2 = am_Ex d 67 3 [(2, 447), (0, o), (0, k + 1)] [] (am_wr m2 (448 + o) k (am_rd M (449 - o) k)) := by
      rw [aq_67_3]
      rcases ho with rfl | rfl
      all_goals
        simp only [Int.reduceEq, Int.reduceNe, Int.reduceLT, Int.reduceLE, Int.reduceAdd, Int.reduceSub, Int.reduceMul, Int.reduceNeg, reduceIte, ite_true, ite_false, true_and, and_true, false_and, and_false, true_or, or_true, false_or, or_false, not_true_eq_false, not_false_eq_true, and_self, or_self, eq_self, ite_self, decide_true, decide_false, Bool.true_and, Bool.and_true, Bool.and_self, Bool.false_and, Int.add_zero, Int.zero_add] at g1
        simp (disch := first | assumption | omega) only [ax_gt, ax_gi, Option.bind_some, ax_gbl, ax_gb2, ax_gd, Int.reduceEq, Int.reduceNe, Int.reduceLT, Int.reduceLE, Int.reduceAdd, Int.reduceSub, Int.reduceMul, Int.reduceNeg, reduceIte, ite_true, ite_false, true_and, and_true, false_and, and_false, true_or, or_true, false_or, or_false, not_true_eq_false, not_false_eq_true, and_self, or_self, eq_self, ite_self, decide_true, decide_false, Bool.true_and, Bool.and_true, Bool.and_self, Bool.false_and, Int.add_zero, Int.zero_add, ax_rw, if_pos, if_neg, ax_w32, ax_let, ax_o_447, ax_a_448, kr_447_0, ax_a_449, kr_447_1, g1, aq_67_26]
    show ax_ok (am_Ex d 67 3 _ _ _) _
    rw [key]
    refine hnext () _ ⟨by omega, by rcases ho with rfl | rfl <;> exact ax_Kw hK2 rfl, fun c i => ?_⟩
    rw [ax_rw, hr2]
    (repeat' split) <;> first | rfl | (exfalso; omega) | (congr 1 <;> omega)
  · intro _ m2 ⟨k0, hK2, hr2⟩
    show ax_ok (am_Ex d 67 3 _ _ _) _
    rw [aq_67_3, if_neg (by omega)]
    exact ax_ok_some hr2
  · rw [if_neg (by omega)]
theorem m_147 {w : Int} (hK : ax_K M) (b : mb_B M) : ax_ok (am_Call d 147 [(2, 447), (0, w)] M) (fun r M' => if ¬ (0 ≤ w ∧ w ≤ 9) ∨ am_rd M 448 1 = 6 then r = -1 ∧ M' = M else r = am_rd M 448 1 ∧ ∀ c i, am_rd M' c i = if c = 448 then (if i = 1 then am_rd M 448 1 + 1 else if i = 26 + am_rd M 448 1 then w else if i = 210 + am_rd M 448 1 then -1 else if (390 ≤ i ∧ i < 390 + 164 * am_rd M 448 5) ∧ (i - 390) % 164 = am_rd M 448 1 then -1 else am_rd M 448 i) else am_rd M c i) := by
  obtain ⟨b1, b2, b3, b4, b5, b6⟩ := b
  generalize hq : am_rd M 448 1 = q at *
  rw [aq_147]
  by_cases h : 0 ≤ w ∧ w ≤ 9
  · by_cases h2 : q = 6
    · simp (disch := first | assumption | omega) only [ax_gt, ax_gi, Option.bind_some, ax_gbl, ax_gb2, ax_gd, Int.reduceEq, Int.reduceNe, Int.reduceLT, Int.reduceLE, Int.reduceAdd, Int.reduceSub, Int.reduceMul, Int.reduceNeg, reduceIte, ite_true, ite_false, true_and, and_true, false_and, and_false, true_or, or_true, false_or, or_false, not_true_eq_false, not_false_eq_true, and_self, or_self, eq_self, ite_self, decide_true, decide_false, Bool.true_and, Bool.and_true, Bool.and_self, Bool.false_and, Int.add_zero, Int.zero_add, ax_rw, if_pos, if_neg, ax_let, ax_o_447, ax_a_448, kr_447_0, m_64, ax_b0, hq, h2]
      exact ax_ok_some ⟨rfl, rfl⟩
    · simp (disch := first | assumption | omega) only [ax_gt, ax_gi, Option.bind_some, ax_gbl, ax_gb2, ax_gd, Int.reduceEq, Int.reduceNe, Int.reduceLT, Int.reduceLE, Int.reduceAdd, Int.reduceSub, Int.reduceMul, Int.reduceNeg, reduceIte, ite_true, ite_false, true_and, and_true, false_and, and_false, true_or, or_true, false_or, or_false, not_true_eq_false, not_false_eq_true, and_self, or_self, eq_self, ite_self, decide_true, decide_false, Bool.true_and, Bool.and_true, Bool.and_self, Bool.false_and, Int.add_zero, Int.zero_add, ax_rw, if_pos, if_neg, ax_w32, ax_let, ax_o_447, ax_a_448, kr_447_0, m_64, ax_b0, hq]
      have K0 : ax_K (am_wr (am_wr M 448 (26 + q) w) 448 (210 + q) (-1)) := ax_Kw (ax_Kw hK rfl) rfl
      refine ax_loopQ (σ := Unit) (X := fun k _ m2 => am_Ex d 147 33 [(2, 447), am_N, (0, q), (0, k)] [] m2) (n := am_rd M 448 5) (fun k _ m2 => 0 ≤ k ∧ ax_K m2 ∧ ∀ c i, am_rd m2 c i = if c = 448 then (if i = 26 + q then w else if i = 210 + q then -1 else if (390 ≤ i ∧ i < 390 + 164 * k) ∧ (i - 390) % 164 = q then -1 else am_rd M 448 i) else am_rd M c i) ?_ ?_ (am_rd M 448 5 - 0).toNat 0 () _ (by omega) ⟨by omega, K0, fun c i => ?_⟩
      · intro k _ m2 ⟨k0, hK2, hr2⟩ k1 hnext
        have g5 : am_rd m2 448 5 = am_rd M 448 5 := by
          rw [hr2, if_pos rfl, if_neg (by omega), if_neg (by omega), if_neg (by omega)]
        have e1 : 240 + 164 * k + 210 - 60 + q = 390 + 164 * k + q := by omega
        have key : am_Ex d 147 33 [(2, 447), am_N, (0, q), (0, k)] [] m2 = am_Ex d 147 33 [(2, 447), am_N, (0, q), (0, k + 1)] [] (am_wr m2 448 (390 + 164 * k + q) (-1)) := by
          rw [aq_147_33]
          simp (disch := first | assumption | omega) only [ax_gt, ax_gi, Option.bind_some, ax_gbl, ax_gb2, ax_gd, Int.reduceEq, Int.reduceNe, Int.reduceLT, Int.reduceLE, Int.reduceAdd, Int.reduceSub, Int.reduceMul, Int.reduceNeg, reduceIte, ite_true, ite_false, true_and, and_true, false_and, and_false, true_or, or_true, false_or, or_false, not_true_eq_false, not_false_eq_true, and_self, or_self, eq_self, ite_self, decide_true, decide_false, Bool.true_and, Bool.and_true, Bool.and_self, Bool.false_and, Int.add_zero, Int.zero_add, ax_rw, if_pos, if_neg, ax_w32, ax_let, ax_o_447, ax_a_448, kr_447_0, g5, e1]
        show ax_ok (am_Ex d 147 33 _ _ _) _
        rw [key]
        refine hnext () _ ⟨by omega, ax_Kw hK2 rfl, fun c i => ?_⟩
        rw [ax_rw, hr2]
        (repeat' split) <;> first | rfl | (exfalso; omega) | (congr 1 <;> omega)
      · intro _ m2 ⟨k0, hK2, hr2⟩
        have g5 : am_rd m2 448 5 = am_rd M 448 5 := by
          rw [hr2, if_pos rfl, if_neg (by omega), if_neg (by omega), if_neg (by omega)]
        have g1 : am_rd m2 448 1 = q := by
          rw [hr2, if_pos rfl, if_neg (by omega), if_neg (by omega), if_neg (by omega), hq]
        show ax_ok (am_Ex d 147 33 _ _ _) _
        rw [aq_147_33]
        simp (disch := first | assumption | omega) only [ax_gt, ax_gi, Option.bind_some, ax_gbl, ax_gb2, ax_gd, Int.reduceEq, Int.reduceNe, Int.reduceLT, Int.reduceLE, Int.reduceAdd, Int.reduceSub, Int.reduceMul, Int.reduceNeg, reduceIte, ite_true, ite_false, true_and, and_true, false_and, and_false, true_or, or_true, false_or, or_false, not_true_eq_false, not_false_eq_true, and_self, or_self, eq_self, ite_self, decide_true, decide_false, Bool.true_and, Bool.and_true, Bool.and_self, Bool.false_and, Int.add_zero, Int.zero_add, ax_rw, if_pos, if_neg, ax_w32, ax_let, ax_o_447, ax_a_448, kr_447_0, g5, g1, Int.lt_irrefl]
        refine ax_ok_some ⟨rfl, fun c i => ?_⟩
        rw [ax_rw, hr2]
        (repeat' split) <;> first | rfl | (exfalso; omega) | (congr 1 <;> omega)
      · rw [ax_rw, ax_rw]
        (repeat' split) <;> first | rfl | (exfalso; omega) | (congr 1 <;> omega)
  · simp (disch := first | assumption | omega) only [ax_gt, ax_gi, Option.bind_some, ax_gbl, ax_gb2, ax_gd, Int.reduceEq, Int.reduceNe, Int.reduceLT, Int.reduceLE, Int.reduceAdd, Int.reduceSub, Int.reduceMul, Int.reduceNeg, reduceIte, ite_true, ite_false, true_and, and_true, false_and, and_false, true_or, or_true, false_or, or_false, not_true_eq_false, not_false_eq_true, and_self, or_self, eq_self, ite_self, decide_true, decide_false, Bool.true_and, Bool.and_true, Bool.and_self, Bool.false_and, Int.add_zero, Int.zero_add, ax_rw, if_pos, if_neg, ax_let, ax_o_447, ax_a_448, kr_447_0, m_64, ax_b0, hq]
    exact ax_ok_some ⟨rfl, rfl⟩
theorem m_158 (hK : ax_K M) (F : FH M 448 60 H) (E : ME M T n al P W cd) (S : ES T n al P W cd) (B : HB T H) (m0 : 0 ≤ m) (m2 : m < 6) : ax_ok (am_Call d 158 [(2, 447), (0, m)] M) (fun _ M' => FH M' 448 60 (hDr T m H) ∧ RF M M') := by
  have hT := S.1
  rw [aq_158]
  unfold hDr
  refine ax_loopQ (σ := Int → Int) (X := fun t _ m' => am_Ex d 158 3 [(2, 447), (0, m), (0, t), am_N] [] m') (n := T) (fun t H' m' => 0 ≤ t ∧ ax_K m' ∧ FH m' 448 60 H' ∧ RF M m' ∧ HB T H' ∧ ax_fo (fun t H => if am_and (am_shr (H (144 + m)) t) 1 = 1 then H else hR H m t (H (8 * m + t) - 3)) (T - t).toNat t H' = ax_fo (fun t H => if am_and (am_shr (H (144 + m)) t) 1 = 1 then H else hR H m t (H (8 * m + t) - 3)) (T - 0).toNat 0 H) ?_ ?_ (T - 0).toNat 0 H M (by omega) ⟨by omega, hK, F, fun _ _ _ _ _ _ _ => rfl, B, rfl⟩
  · intro t H' m' ⟨t0, hK', F', f', B', hs⟩ t1 hnext
    have f : ∀ j, 0 ≤ j → j < 164 → am_rd m' 448 (60 + j) = H' j := F'
    have gT : am_rd m' 448 0 = T := (f' _ _ (by omega) (by omega) (by omega) (by omega) (by omega)).trans E.1.1
    have g1 := f (144 + m) (by omega) (by omega)
    rw [show (60 : Int) + (144 + m) = 204 + m by omega] at g1
    have g2 := f (8 * m + t) (by omega) (by omega)
    rw [show (60 : Int) + (8 * m + t) = 60 + 8 * m + t by omega] at g2
    have bb := B'.1 (8 * m + t) (by omega) (by omega)
    show ax_ok (am_Ex d 158 3 _ _ _) _
    have step : ∀ v : Int, v = H' (8 * m + t) ∨ v = hcl 0 99 (H' (8 * m + t) - 3) → FH (am_wr m' 448 (60 + 8 * m + t) v) 448 60 (hu H' (8 * m + t) v) ∧ RF M (am_wr m' 448 (60 + 8 * m + t) v) := by
      intro v _
      constructor
      · intro j j0 j1
        rw [ax_rw]
        unfold hu
        by_cases e : j = 8 * m + t
        · rw [if_pos (by omega), if_pos e]
        · rw [if_neg (by omega), if_neg e]; exact f j j0 j1
      · intro c i h1 h2 h3 h4 h5
        rw [ax_rw, if_neg (by omega)]
        exact f' c i h1 h2 h3 h4 h5
    by_cases hsg : am_and (am_shr (H' (144 + m)) t) 1 = 1
    · have e0 : hu H' (8 * m + t) (H' (8 * m + t)) = H' := by
        funext j; unfold hu; split
        · rename_i h; rw [h]
        · rfl
      have st := step (H' (8 * m + t)) (Or.inl rfl)
      rw [e0] at st
      rw [aq_158_3]
      simp (disch := first | assumption | omega) only [ax_gt, ax_gi, Option.bind_some, ax_gbl, ax_gb2, ax_gd, Int.reduceEq, Int.reduceNe, Int.reduceLT, Int.reduceLE, Int.reduceAdd, Int.reduceSub, Int.reduceMul, Int.reduceNeg, reduceIte, ite_true, ite_false, true_and, and_true, false_and, and_false, true_or, or_true, false_or, or_false, not_true_eq_false, not_false_eq_true, and_self, or_self, eq_self, ite_self, decide_true, decide_false, Bool.true_and, Bool.and_true, Bool.and_self, Bool.false_and, Int.add_zero, Int.zero_add, ax_rw, if_pos, if_neg, ax_w32, ax_let, ax_o_447, ax_a_448, kr_447_0, gT, g1, m_65, ax_b0, hsg, g2]
      exact hnext H' _ ⟨by omega, ax_Kw hK' rfl, st.1, st.2, B', by rw [← hs, ax_fo_s t1, if_pos hsg]⟩
    · have e0 : hu H' (8 * m + t) (hcl 0 99 (H' (8 * m + t) - 3)) = hR H' m t (H' (8 * m + t) - 3) := by
        funext j; unfold hR hu
        have hc : hcl 0 99 (H' (8 * m + t) - 3) ≤ H' (8 * m + t) := by unfold hcl; (repeat' split) <;> omega
        by_cases e : j = 96 + (8 * m + t)
        · rw [if_neg (by omega), if_pos e, e]; omega
        · rw [if_neg e]
      have st := step (hcl 0 99 (H' (8 * m + t) - 3)) (Or.inr rfl)
      rw [e0] at st
      have nx := hnext (hR H' m t (H' (8 * m + t) - 3)) _ ⟨by omega, ax_Kw hK' rfl, st.1, st.2, HB_R B' m0 m2 t0 t1 hT.2, by rw [← hs, ax_fo_s t1, if_neg hsg]⟩
      rw [aq_158_3]
      by_cases h3 : H' (8 * m + t) < 3
      · rw [show hcl 0 99 (H' (8 * m + t) - 3) = 0 from hcl_neg (by omega)] at nx
        simp (disch := first | assumption | omega) only [ax_gt, ax_gi, Option.bind_some, ax_gbl, ax_gb2, ax_gd, Int.reduceEq, Int.reduceNe, Int.reduceLT, Int.reduceLE, Int.reduceAdd, Int.reduceSub, Int.reduceMul, Int.reduceNeg, reduceIte, ite_true, ite_false, true_and, and_true, false_and, and_false, true_or, or_true, false_or, or_false, not_true_eq_false, not_false_eq_true, and_self, or_self, eq_self, ite_self, decide_true, decide_false, Bool.true_and, Bool.and_true, Bool.and_self, Bool.false_and, Int.add_zero, Int.zero_add, ax_rw, if_pos, if_neg, ax_w32, ax_let, ax_o_447, ax_a_448, kr_447_0, gT, g1, m_65, ax_b0, hsg, g2]
        exact nx
      · rw [show hcl 0 99 (H' (8 * m + t) - 3) = H' (8 * m + t) - 3 from hcl_id (by omega) (by omega)] at nx
        simp (disch := first | assumption | omega) only [ax_gt, ax_gi, Option.bind_some, ax_gbl, ax_gb2, ax_gd, Int.reduceEq, Int.reduceNe, Int.reduceLT, Int.reduceLE, Int.reduceAdd, Int.reduceSub, Int.reduceMul, Int.reduceNeg, reduceIte, ite_true, ite_false, true_and, and_true, false_and, and_false, true_or, or_true, false_or, or_false, not_true_eq_false, not_false_eq_true, and_self, or_self, eq_self, ite_self, decide_true, decide_false, Bool.true_and, Bool.and_true, Bool.and_self, Bool.false_and, Int.add_zero, Int.zero_add, ax_rw, if_pos, if_neg, ax_w32, ax_let, ax_o_447, ax_a_448, kr_447_0, gT, g1, m_65, ax_b0, hsg, g2]
        exact nx
  · intro H' m' ⟨t0, hK', F', f', B', hs⟩
    rw [ax_fo_e (Int.le_refl _)] at hs
    have gT : am_rd m' 448 0 = T := (f' _ _ (by omega) (by omega) (by omega) (by omega) (by omega)).trans E.1.1
    show ax_ok (am_Ex d 158 3 _ _ _) _
    rw [aq_158_3]
    simp (disch := first | assumption | omega) only [ax_gt, ax_gi, Option.bind_some, ax_gbl, ax_gb2, ax_gd, Int.reduceEq, Int.reduceNe, Int.reduceLT, Int.reduceLE, Int.reduceAdd, Int.reduceSub, Int.reduceMul, Int.reduceNeg, reduceIte, ite_true, ite_false, true_and, and_true, false_and, and_false, true_or, or_true, false_or, or_false, not_true_eq_false, not_false_eq_true, and_self, or_self, eq_self, ite_self, decide_true, decide_false, Bool.true_and, Bool.and_true, Bool.and_self, Bool.false_and, Int.add_zero, Int.zero_add, ax_rw, if_pos, if_neg, ax_o_447, ax_a_448, kr_447_0, gT, Int.lt_irrefl]
    exact ax_ok_some ⟨hs ▸ F', f'⟩
/-- rounds of leads -/
def rd1 (L : Int → Int) (T s : Int) : Int := ax_fo (fun t s => if am_and (am_shr s t) 1 = 1 then am_or s (L t) else am_or s 0) (T - 0).toNat 0 s
theorem m_159 {x : Int} (hK : ax_K M) (b : mb_B M) : am_Call d 159 [(2, 447), (0, x)] M = some (ax_fo (fun _ s => rd1 (fun t => am_rd M 448 (18 + t)) (am_rd M 448 0) s) ((8 : Int) - 0).toNat 0 x, M) := by
  obtain ⟨b1, b2, b3, b4, b5, b6⟩ := b
  unfold rd1
  rw [aq_159]
  refine ax_loop (X := fun k s => am_Ex d 159 5 [(2, 447), am_N, (0, s), (0, k), am_N] [] M) (E := fun s => some (s, M)) (n := 8) (fun k _ => 0 ≤ k) ?_ ?_ _ _ _ (by omega) (by omega)
  · intro k a hk hl
    constructor
    · show am_Ex d 159 5 _ _ _ = _
      rw [aq_159_5, if_pos hl]
      refine ax_loop (X := fun t s => am_Ex d 159 11 [(2, 447), am_N, (0, s), (0, k), (0, t)] [] M) (E := fun s => am_Ex d 159 5 [(2, 447), am_N, (0, s), (0, k + 1), am_N] [] M) (n := am_rd M 448 0) (fun t _ => 0 ≤ t) ?_ ?_ _ _ _ (by omega) (by omega)
      · intro t a ht htl
        constructor
        · show am_Ex d 159 11 _ _ _ = _
          rw [aq_159_11]
          simp (disch := first | assumption | omega) only [ax_gt, ax_gi, Option.bind_some, ax_gbl, ax_gb2, ax_gd, Int.reduceEq, Int.reduceNe, Int.reduceLT, Int.reduceLE, Int.reduceAdd, Int.reduceSub, Int.reduceMul, Int.reduceNeg, reduceIte, ite_true, ite_false, true_and, and_true, false_and, and_false, true_or, or_true, false_or, or_false, not_true_eq_false, not_false_eq_true, and_self, or_self, eq_self, ite_self, decide_true, decide_false, Bool.true_and, Bool.and_true, Bool.and_self, Bool.false_and, Int.add_zero, Int.zero_add, ax_rw, if_pos, if_neg, ax_w32, ax_let, ax_o_447, ax_a_448, kr_447_0, m_65, ax_b0, ite_not]
          split <;> rfl
        · omega
      · intro a ha
        show am_Ex d 159 11 _ _ _ = _
        rw [aq_159_11]
        simp (disch := first | assumption | omega) only [ax_gt, ax_gi, Option.bind_some, ax_gbl, ax_gb2, ax_gd, Int.reduceEq, Int.reduceNe, Int.reduceLT, Int.reduceLE, Int.reduceAdd, Int.reduceSub, Int.reduceMul, Int.reduceNeg, reduceIte, ite_true, ite_false, true_and, and_true, false_and, and_false, true_or, or_true, false_or, or_false, not_true_eq_false, not_false_eq_true, and_self, or_self, eq_self, ite_self, decide_true, decide_false, Bool.true_and, Bool.and_true, Bool.and_self, Bool.false_and, Int.add_zero, Int.zero_add, ax_rw, if_pos, if_neg, ax_w32, ax_let, ax_o_447, ax_a_448, kr_447_0, Int.lt_irrefl]
    · omega
  · intro a ha
    show am_Ex d 159 5 _ _ _ = _
    rw [aq_159_5, if_neg (by omega)]
end
