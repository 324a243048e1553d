/-! the model's hands: as they are now (472 .. 477, the day 447.47), as they are kept (a row's part) -/
def NH (M : am_M) (H : Int → Int) : Prop := (∀ j, 0 ≤ j → j < 48 → am_rd M 472 j = H j) ∧ (∀ j, 0 ≤ j → j < 48 → am_rd M 473 j = H (48 + j)) ∧ (∀ j, 0 ≤ j → j < 48 → am_rd M 474 j = H (96 + j)) ∧ (∀ j, 0 ≤ j → j < 6 → am_rd M 475 j = H (144 + j)) ∧ (∀ j, 0 ≤ j → j < 6 → am_rd M 476 j = H (150 + j)) ∧ (∀ j, 0 ≤ j → j < 6 → am_rd M 477 j = H (156 + j)) ∧ am_rd M 447 47 = H 162
def FH (M : am_M) (c o : Int) (H : Int → Int) : Prop := ∀ j, 0 ≤ j → j < 164 → am_rd M c (o + j) = H j
/-- nothing but the hands as they are now, and what the laws write, has changed -/
def NF (M M' : am_M) : Prop := ∀ c i, c ≠ 470 → c ≠ 471 → (c < 472 ∨ 477 < c) → ¬ (c = 447 ∧ i = 47) → am_rd M' c i = am_rd M c i
theorem NF_refl {M : am_M} : NF M M := fun _ _ _ _ _ _ => rfl
theorem NF_trans {M M1 M2 : am_M} (a : NF M M1) (b : NF M1 M2) : NF M M2 := fun c i h1 h2 h3 h4 => (b c i h1 h2 h3 h4).trans (a c i h1 h2 h3 h4)
theorem NH_same {M M' : am_M} {H : Int → Int} (a : NH M H) (e : ∀ c i, (472 ≤ c ∧ c ≤ 477) ∨ (c = 447 ∧ i = 47) → am_rd M' c i = am_rd M c i) : NH M' H := by
  obtain ⟨r1, r2, r3, r4, r5, r6, r7⟩ := a
  exact ⟨fun j h0 h1 => (e _ _ (by omega)).trans (r1 j h0 h1), fun j h0 h1 => (e _ _ (by omega)).trans (r2 j h0 h1), fun j h0 h1 => (e _ _ (by omega)).trans (r3 j h0 h1), fun j h0 h1 => (e _ _ (by omega)).trans (r4 j h0 h1), fun j h0 h1 => (e _ _ (by omega)).trans (r5 j h0 h1), fun j h0 h1 => (e _ _ (by omega)).trans (r6 j h0 h1), (e _ _ (by omega)).trans r7⟩
section
variable {M : am_M} {d : Nat} {H : Int → Int}
theorem m_88 (hK : ax_K M) (F : FH M 448 60 H) : ax_ok (am_Call d 88 [(2, 447)] M) (fun _ M' => NH M' H ∧ NF M M') := by
  rw [aq_88]
  simp (disch := first | assumption | omega) only [ax_gt, ax_gi, Option.bind_some, ax_gbl, ax_gb2, ax_gd, Int.reduceEq, Int.reduceNe, Int.reduceLT, Int.reduceLE, Int.reduceAdd, Int.reduceSub, Int.reduceMul, Int.reduceNeg, reduceIte, ite_true, ite_false, true_and, and_true, false_and, and_false, true_or, or_true, false_or, or_false, not_true_eq_false, not_false_eq_true, and_self, or_self, eq_self, ite_self, decide_true, decide_false, Bool.true_and, Bool.and_true, Bool.and_self, Bool.false_and, Int.sub_zero, Int.add_zero, Int.zero_add, ax_rw, if_pos, if_neg, ax_w32, ax_let, ax_o_447, ax_a_448, kr_447_0]
  have K0 : ax_K (am_wr M 447 47 (am_rd M 448 222)) := ax_Kw hK rfl
  refine ax_loopQ (σ := Unit) (X := fun k _ m' => am_Ex d 88 9 [(2, 447), (0, k)] [] m') (n := 48) (fun k _ m' => 0 ≤ k ∧ ax_K m' ∧ ∀ c i, am_rd m' c i = if c = 447 ∧ i = 47 then am_rd M 448 222 else if c = 472 ∧ 0 ≤ i ∧ i < k then am_rd M 448 (60 + i) else if c = 473 ∧ 0 ≤ i ∧ i < k then am_rd M 448 (108 + i) else if c = 474 ∧ 0 ≤ i ∧ i < k then am_rd M 448 (156 + i) else am_rd M c i) ?_ ?_ ((48 : Int) - 0).toNat 0 () _ (by omega) ⟨by omega, K0, fun c i => ?_⟩
  · intro k _ m' ⟨k0, hK', hr⟩ k1 hnext
    have g1 : am_rd m' 448 (60 + k) = am_rd M 448 (60 + k) := by rw [hr]; simp only [Int.reduceEq, Int.reduceNe, Int.reduceLT, Int.reduceLE, Int.reduceAdd, Int.reduceSub, Int.reduceMul, Int.reduceNeg, reduceIte, ite_true, ite_false, true_and, and_true, false_and, and_false, true_or, or_true, false_or, or_false, not_true_eq_false, not_false_eq_true, and_self, or_self, eq_self, ite_self, decide_true, decide_false, Bool.true_and, Bool.and_true, Bool.and_self, Bool.false_and, Int.sub_zero, Int.add_zero, Int.zero_add]
    have g2 : am_rd m' 448 (108 + k) = am_rd M 448 (108 + k) := by rw [hr]; simp only [Int.reduceEq, Int.reduceNe, Int.reduceLT, Int.reduceLE, Int.reduceAdd, Int.reduceSub, Int.reduceMul, Int.reduceNeg, reduceIte, ite_true, ite_false, true_and, and_true, false_and, and_false, true_or, or_true, false_or, or_false, not_true_eq_false, not_false_eq_true, and_self, or_self, eq_self, ite_self, decide_true, decide_false, Bool.true_and, Bool.and_true, Bool.and_self, Bool.false_and, Int.sub_zero, Int.add_zero, Int.zero_add]
    have g3 : am_rd m' 448 (156 + k) = am_rd M 448 (156 + k) := by rw [hr]; simp only [Int.reduceEq, Int.reduceNe, Int.reduceLT, Int.reduceLE, Int.reduceAdd, Int.reduceSub, Int.reduceMul, Int.reduceNeg, reduceIte, ite_true, ite_false, true_and, and_true, false_and, and_false, true_or, or_true, false_or, or_false, not_true_eq_false, not_false_eq_true, and_self, or_self, eq_self, ite_self, decide_true, decide_false, Bool.true_and, Bool.and_true, Bool.and_self, Bool.false_and, Int.sub_zero, Int.add_zero, Int.zero_add]
    have key : am_Ex d 88 9 [(2, 447), (0, k)] [] m' = am_Ex d 88 9 [(2, 447), (0, k + 1)] [] (am_wr (am_wr (am_wr m' 472 k (am_rd M 448 (60 + k))) 473 k (am_rd M 448 (108 + k))) 474 k (am_rd M 448 (156 + k))) := by
      rw [aq_88_9]
      simp (disch := first | assumption | omega) only [ax_gt, ax_gi, Option.bind_some, ax_gbl, ax_gb2, ax_gd, Int.reduceEq, Int.reduceNe, Int.reduceLT, Int.reduceLE, Int.reduceAdd, Int.reduceSub, Int.reduceMul, Int.reduceNeg, reduceIte, ite_true, ite_false, true_and, and_true, false_and, and_false, true_or, or_true, false_or, or_false, not_true_eq_false, not_false_eq_true, and_self, or_self, eq_self, ite_self, decide_true, decide_false, Bool.true_and, Bool.and_true, Bool.and_self, Bool.false_and, Int.sub_zero, Int.add_zero, Int.zero_add, ax_rw, if_pos, if_neg, ax_w32, ax_o_447, ax_a_448, kr_447_0, ax_a_472, kr_447_41, ax_a_473, kr_447_42, ax_a_474, kr_447_43, g1]
      rw [ax_let]
      simp (disch := first | assumption | omega) only [ax_gt, ax_gi, Option.bind_some, ax_gbl, ax_gb2, ax_gd, Int.reduceEq, Int.reduceNe, Int.reduceLT, Int.reduceLE, Int.reduceAdd, Int.reduceSub, Int.reduceMul, Int.reduceNeg, reduceIte, ite_true, ite_false, true_and, and_true, false_and, and_false, true_or, or_true, false_or, or_false, not_true_eq_false, not_false_eq_true, and_self, or_self, eq_self, ite_self, decide_true, decide_false, Bool.true_and, Bool.and_true, Bool.and_self, Bool.false_and, Int.sub_zero, Int.add_zero, Int.zero_add, ax_rw, if_pos, if_neg, ax_w32, ax_o_447, ax_a_448, kr_447_0, ax_a_472, kr_447_41, ax_a_473, kr_447_42, ax_a_474, kr_447_43, g2]
      rw [ax_let]
      simp (disch := first | assumption | omega) only [ax_gt, ax_gi, Option.bind_some, ax_gbl, ax_gb2, ax_gd, Int.reduceEq, Int.reduceNe, Int.reduceLT, Int.reduceLE, Int.reduceAdd, Int.reduceSub, Int.reduceMul, Int.reduceNeg, reduceIte, ite_true, ite_false, true_and, and_true, false_and, and_false, true_or, or_true, false_or, or_false, not_true_eq_false, not_false_eq_true, and_self, or_self, eq_self, ite_self, decide_true, decide_false, Bool.true_and, Bool.and_true, Bool.and_self, Bool.false_and, Int.sub_zero, Int.add_zero, Int.zero_add, ax_rw, if_pos, if_neg, ax_w32, ax_let, ax_o_447, ax_a_448, kr_447_0, ax_a_472, kr_447_41, ax_a_473, kr_447_42, ax_a_474, kr_447_43, g3]
    show ax_ok (am_Ex d 88 9 _ _ _) _
    rw [key]
    refine hnext () _ ⟨by omega, ax_Kw (ax_Kw (ax_Kw hK' rfl) rfl) rfl, fun c i => ?_⟩
    simp only [ax_rw, hr]
    (repeat' split) <;> first | rfl | (exfalso; omega) | (congr 1; omega)
  · intro _ m' ⟨k0, hK', hr⟩
    show ax_ok (am_Ex d 88 9 _ _ _) _
    rw [aq_88_9, if_neg (by omega)]
    refine ax_loopQ (σ := Unit) (X := fun k _ m' => am_Ex d 88 47 [(2, 447), (0, k)] [] m') (n := 6) (fun k _ m2 => 0 ≤ k ∧ ax_K m2 ∧ ∀ c i, am_rd m2 c i = if c = 475 ∧ 0 ≤ i ∧ i < k then am_rd M 448 (204 + i) else if c = 476 ∧ 0 ≤ i ∧ i < k then am_rd M 448 (210 + i) else if c = 477 ∧ 0 ≤ i ∧ i < k then am_rd M 448 (216 + i) else am_rd m' c i) ?_ ?_ ((6 : Int) - 0).toNat 0 () _ (by omega) ⟨by omega, hK', fun c i => ?_⟩
    · intro k _ m2 ⟨k0, hK2, hr2⟩ k1 hnext
      have g1 : am_rd m2 448 (204 + k) = am_rd M 448 (204 + k) := by rw [hr2, hr]; simp only [Int.reduceEq, Int.reduceNe, Int.reduceLT, Int.reduceLE, Int.reduceAdd, Int.reduceSub, Int.reduceMul, Int.reduceNeg, reduceIte, ite_true, ite_false, true_and, and_true, false_and, and_false, true_or, or_true, false_or, or_false, not_true_eq_false, not_false_eq_true, and_self, or_self, eq_self, ite_self, decide_true, decide_false, Bool.true_and, Bool.and_true, Bool.and_self, Bool.false_and, Int.sub_zero, Int.add_zero, Int.zero_add]
      have g2 : am_rd m2 448 (210 + k) = am_rd M 448 (210 + k) := by rw [hr2, hr]; simp only [Int.reduceEq, Int.reduceNe, Int.reduceLT, Int.reduceLE, Int.reduceAdd, Int.reduceSub, Int.reduceMul, Int.reduceNeg, reduceIte, ite_true, ite_false, true_and, and_true, false_and, and_false, true_or, or_true, false_or, or_false, not_true_eq_false, not_false_eq_true, and_self, or_self, eq_self, ite_self, decide_true, decide_false, Bool.true_and, Bool.and_true, Bool.and_self, Bool.false_and, Int.sub_zero, Int.add_zero, Int.zero_add]
      have g3 : am_rd m2 448 (216 + k) = am_rd M 448 (216 + k) := by rw [hr2, hr]; simp only [Int.reduceEq, Int.reduceNe, Int.reduceLT, Int.reduceLE, Int.reduceAdd, Int.reduceSub, Int.reduceMul, Int.reduceNeg, reduceIte, ite_true, ite_false, true_and, and_true, false_and, and_false, true_or, or_true, false_or, or_false, not_true_eq_false, not_false_eq_true, and_self, or_self, eq_self, ite_self, decide_true, decide_false, Bool.true_and, Bool.and_true, Bool.and_self, Bool.false_and, Int.sub_zero, Int.add_zero, Int.zero_add]
      have key : am_Ex d 88 47 [(2, 447), (0, k)] [] m2 = am_Ex d 88 47 [(2, 447), (0, k + 1)] [] (am_wr (am_wr (am_wr m2 475 k (am_rd M 448 (204 + k))) 476 k (am_rd M 448 (210 + k))) 477 k (am_rd M 448 (216 + k))) := by
        rw [aq_88_47]
        simp (disch := first | assumption | omega) only [ax_gt, ax_gi, Option.bind_some, ax_gbl, ax_gb2, ax_gd, Int.reduceEq, Int.reduceNe, Int.reduceLT, Int.reduceLE, Int.reduceAdd, Int.reduceSub, Int.reduceMul, Int.reduceNeg, reduceIte, ite_true, ite_false, true_and, and_true, false_and, and_false, true_or, or_true, false_or, or_false, not_true_eq_false, not_false_eq_true, and_self, or_self, eq_self, ite_self, decide_true, decide_false, Bool.true_and, Bool.and_true, Bool.and_self, Bool.false_and, Int.sub_zero, Int.add_zero, Int.zero_add, ax_rw, if_pos, if_neg, ax_w32, ax_o_447, ax_a_448, kr_447_0, ax_a_475, kr_447_44, ax_a_476, kr_447_45, ax_a_477, kr_447_46, g1]
        rw [ax_let]
        simp (disch := first | assumption | omega) only [ax_gt, ax_gi, Option.bind_some, ax_gbl, ax_gb2, ax_gd, Int.reduceEq, Int.reduceNe, Int.reduceLT, Int.reduceLE, Int.reduceAdd, Int.reduceSub, Int.reduceMul, Int.reduceNeg, reduceIte, ite_true, ite_false, true_and, and_true, false_and, and_false, true_or, or_true, false_or, or_false, not_true_eq_false, not_false_eq_true, and_self, or_self, eq_self, ite_self, decide_true, decide_false, Bool.true_and, Bool.and_true, Bool.and_self, Bool.false_and, Int.sub_zero, Int.add_zero, Int.zero_add, ax_rw, if_pos, if_neg, ax_w32, ax_o_447, ax_a_448, kr_447_0, ax_a_475, kr_447_44, ax_a_476, kr_447_45, ax_a_477, kr_447_46, g2]
        rw [ax_let]
        simp (disch := first | assumption | omega) only [ax_gt, ax_gi, Option.bind_some, ax_gbl, ax_gb2, ax_gd, Int.reduceEq, Int.reduceNe, Int.reduceLT, Int.reduceLE, Int.reduceAdd, Int.reduceSub, Int.reduceMul, Int.reduceNeg, reduceIte, ite_true, ite_false, true_and, and_true, false_and, and_false, true_or, or_true, false_or, or_false, not_true_eq_false, not_false_eq_true, and_self, or_self, eq_self, ite_self, decide_true, decide_false, Bool.true_and, Bool.and_true, Bool.and_self, Bool.false_and, Int.sub_zero, Int.add_zero, Int.zero_add, ax_rw, if_pos, if_neg, ax_w32, ax_let, ax_o_447, ax_a_448, kr_447_0, ax_a_475, kr_447_44, ax_a_476, kr_447_45, ax_a_477, kr_447_46, g3]
      show ax_ok (am_Ex d 88 47 _ _ _) _
      rw [key]
      refine hnext () _ ⟨by omega, ax_Kw (ax_Kw (ax_Kw hK2 rfl) rfl) rfl, fun c i => ?_⟩
      simp only [ax_rw, hr2]
      (repeat' split) <;> first | rfl | (exfalso; omega) | (congr 1; omega)
    · intro _ m2 ⟨k0, hK2, hr2⟩
      show ax_ok (am_Ex d 88 47 _ _ _) _
      rw [aq_88_47, if_neg (by omega)]
      have f : ∀ j, 0 ≤ j → j < 164 → am_rd M 448 (60 + j) = H j := F
      refine ax_ok_some ⟨⟨?_, ?_, ?_, ?_, ?_, ?_, ?_⟩, ?_⟩
      · intro j j0 j1
        rw [hr2, hr, ← f j (by omega) (by omega)]
        simp (disch := omega) only [Int.reduceEq, Int.reduceNe, Int.reduceLT, Int.reduceLE, Int.reduceAdd, Int.reduceSub, Int.reduceMul, Int.reduceNeg, reduceIte, ite_true, ite_false, true_and, and_true, false_and, and_false, true_or, or_true, false_or, or_false, not_true_eq_false, not_false_eq_true, and_self, or_self, eq_self, ite_self, decide_true, decide_false, Bool.true_and, Bool.and_true, Bool.and_self, Bool.false_and, Int.sub_zero, Int.add_zero, Int.zero_add, if_pos, if_neg]
      · intro j j0 j1
        rw [hr2, hr, ← f _ (by omega) (by omega), show (60 : Int) + (48 + j) = 108 + j by omega]
        simp (disch := omega) only [Int.reduceEq, Int.reduceNe, Int.reduceLT, Int.reduceLE, Int.reduceAdd, Int.reduceSub, Int.reduceMul, Int.reduceNeg, reduceIte, ite_true, ite_false, true_and, and_true, false_and, and_false, true_or, or_true, false_or, or_false, not_true_eq_false, not_false_eq_true, and_self, or_self, eq_self, ite_self, decide_true, decide_false, Bool.true_and, Bool.and_true, Bool.and_self, Bool.false_and, Int.sub_zero, Int.add_zero, Int.zero_add, if_pos, if_neg]
      · intro j j0 j1
        rw [hr2, hr, ← f _ (by omega) (by omega), show (60 : Int) + (96 + j) = 156 + j by omega]
        simp (disch := omega) only [Int.reduceEq, Int.reduceNe, Int.reduceLT, Int.reduceLE, Int.reduceAdd, Int.reduceSub, Int.reduceMul, Int.reduceNeg, reduceIte, ite_true, ite_false, true_and, and_true, false_and, and_false, true_or, or_true, false_or, or_false, not_true_eq_false, not_false_eq_true, and_self, or_self, eq_self, ite_self, decide_true, decide_false, Bool.true_and, Bool.and_true, Bool.and_self, Bool.false_and, Int.sub_zero, Int.add_zero, Int.zero_add, if_pos, if_neg]
      · intro j j0 j1
        rw [hr2, ← f _ (by omega) (by omega), show (60 : Int) + (144 + j) = 204 + j by omega]
        simp (disch := omega) only [Int.reduceEq, Int.reduceNe, Int.reduceLT, Int.reduceLE, Int.reduceAdd, Int.reduceSub, Int.reduceMul, Int.reduceNeg, reduceIte, ite_true, ite_false, true_and, and_true, false_and, and_false, true_or, or_true, false_or, or_false, not_true_eq_false, not_false_eq_true, and_self, or_self, eq_self, ite_self, decide_true, decide_false, Bool.true_and, Bool.and_true, Bool.and_self, Bool.false_and, Int.sub_zero, Int.add_zero, Int.zero_add, if_pos, if_neg]
      · intro j j0 j1
        rw [hr2, ← f _ (by omega) (by omega), show (60 : Int) + (150 + j) = 210 + j by omega]
        simp (disch := omega) only [Int.reduceEq, Int.reduceNe, Int.reduceLT, Int.reduceLE, Int.reduceAdd, Int.reduceSub, Int.reduceMul, Int.reduceNeg, reduceIte, ite_true, ite_false, true_and, and_true, false_and, and_false, true_or, or_true, false_or, or_false, not_true_eq_false, not_false_eq_true, and_self, or_self, eq_self, ite_self, decide_true, decide_false, Bool.true_and, Bool.and_true, Bool.and_self, Bool.false_and, Int.sub_zero, Int.add_zero, Int.zero_add, if_pos, if_neg]
      · intro j j0 j1
        rw [hr2, ← f _ (by omega) (by omega), show (60 : Int) + (156 + j) = 216 + j by omega]
        simp (disch := omega) only [Int.reduceEq, Int.reduceNe, Int.reduceLT, Int.reduceLE, Int.reduceAdd, Int.reduceSub, Int.reduceMul, Int.reduceNeg, reduceIte, ite_true, ite_false, true_and, and_true, false_and, and_false, true_or, or_true, false_or, or_false, not_true_eq_false, not_false_eq_true, and_self, or_self, eq_self, ite_self, decide_true, decide_false, Bool.true_and, Bool.and_true, Bool.and_self, Bool.false_and, Int.sub_zero, Int.add_zero, Int.zero_add, if_pos, if_neg]
      · rw [hr2, hr, ← f _ (by omega) (by omega)]
        simp only [Int.reduceEq, Int.reduceNe, Int.reduceLT, Int.reduceLE, Int.reduceAdd, Int.reduceSub, Int.reduceMul, Int.reduceNeg, reduceIte, ite_true, ite_false, true_and, and_true, false_and, and_false, true_or, or_true, false_or, or_false, not_true_eq_false, not_false_eq_true, and_self, or_self, eq_self, ite_self, decide_true, decide_false, Bool.true_and, Bool.and_true, Bool.and_self, Bool.false_and, Int.sub_zero, Int.add_zero, Int.zero_add]
      · intro c i h1 h2 h3 h4
        rw [hr2, hr]
        simp (disch := omega) only [if_neg]
    · simp (disch := omega) only [if_neg]
  · rw [ax_rw]
    (repeat' split) <;> first | rfl | (exfalso; omega)
theorem m_89 (hK : ax_K M) (F : NH M H) : ax_ok (am_Call d 89 [(2, 447)] M) (fun _ M' => (∀ j, 0 ≤ j → j < 163 → am_rd M' 448 (60 + j) = H j) ∧ ∀ c i, ¬ (c = 448 ∧ 60 ≤ i ∧ i < 223) → am_rd M' c i = am_rd M c i) := by
  obtain ⟨f1, f2, f3, f4, f5, f6, f7⟩ := F
  rw [aq_89]
  simp (disch := first | assumption | omega) only [ax_gt, ax_gi, Option.bind_some, ax_gbl, ax_gb2, ax_gd, Int.reduceEq, Int.reduceNe, Int.reduceLT, Int.reduceLE, Int.reduceAdd, Int.reduceSub, Int.reduceMul, Int.reduceNeg, reduceIte, ite_true, ite_false, true_and, and_true, false_and, and_false, true_or, or_true, false_or, or_false, not_true_eq_false, not_false_eq_true, and_self, or_self, eq_self, ite_self, decide_true, decide_false, Bool.true_and, Bool.and_true, Bool.and_self, Bool.false_and, Int.sub_zero, Int.add_zero, Int.zero_add, ax_rw, if_pos, if_neg, ax_w32, ax_let, ax_o_447, ax_a_448, kr_447_0]
  have K0 : ax_K (am_wr M 448 222 (am_rd M 447 47)) := ax_Kw hK rfl
  refine ax_loopQ (σ := Unit) (X := fun k _ m' => am_Ex d 89 9 [(2, 447), (0, k)] [] m') (n := 48) (fun k _ m' => 0 ≤ k ∧ ax_K m' ∧ ∀ c i, am_rd m' c i = if c = 448 then (if i = 222 then am_rd M 447 47 else if 60 ≤ i ∧ i < 60 + k then am_rd M 472 (i - 60) else if 108 ≤ i ∧ i < 108 + k then am_rd M 473 (i - 108) else if 156 ≤ i ∧ i < 156 + k then am_rd M 474 (i - 156) else am_rd M c i) else am_rd M c i) ?_ ?_ ((48 : Int) - 0).toNat 0 () _ (by omega) ⟨by omega, K0, fun c i => ?_⟩
  · intro k _ m' ⟨k0, hK', hr⟩ k1 hnext
    have g1 : am_rd m' 472 k = am_rd M 472 k := by rw [hr]; simp only [Int.reduceEq, Int.reduceNe, Int.reduceLT, Int.reduceLE, Int.reduceAdd, Int.reduceSub, Int.reduceMul, Int.reduceNeg, reduceIte, ite_true, ite_false, true_and, and_true, false_and, and_false, true_or, or_true, false_or, or_false, not_true_eq_false, not_false_eq_true, and_self, or_self, eq_self, ite_self, decide_true, decide_false, Bool.true_and, Bool.and_true, Bool.and_self, Bool.false_and, Int.sub_zero, Int.add_zero, Int.zero_add]
    have g2 : am_rd m' 473 k = am_rd M 473 k := by rw [hr]; simp only [Int.reduceEq, Int.reduceNe, Int.reduceLT, Int.reduceLE, Int.reduceAdd, Int.reduceSub, Int.reduceMul, Int.reduceNeg, reduceIte, ite_true, ite_false, true_and, and_true, false_and, and_false, true_or, or_true, false_or, or_false, not_true_eq_false, not_false_eq_true, and_self, or_self, eq_self, ite_self, decide_true, decide_false, Bool.true_and, Bool.and_true, Bool.and_self, Bool.false_and, Int.sub_zero, Int.add_zero, Int.zero_add]
    have g3 : am_rd m' 474 k = am_rd M 474 k := by rw [hr]; simp only [Int.reduceEq, Int.reduceNe, Int.reduceLT, Int.reduceLE, Int.reduceAdd, Int.reduceSub, Int.reduceMul, Int.reduceNeg, reduceIte, ite_true, ite_false, true_and, and_true, false_and, and_false, true_or, or_true, false_or, or_false, not_true_eq_false, not_false_eq_true, and_self, or_self, eq_self, ite_self, decide_true, decide_false, Bool.true_and, Bool.and_true, Bool.and_self, Bool.false_and, Int.sub_zero, Int.add_zero, Int.zero_add]
    have key : am_Ex d 89 9 [(2, 447), (0, k)] [] m' = am_Ex d 89 9 [(2, 447), (0, k + 1)] [] (am_wr (am_wr (am_wr m' 448 (60 + k) (am_rd M 472 k)) 448 (108 + k) (am_rd M 473 k)) 448 (156 + k) (am_rd M 474 k)) := by
      rw [aq_89_9]
      simp (disch := first | assumption | omega) only [ax_gt, ax_gi, Option.bind_some, ax_gbl, ax_gb2, ax_gd, Int.reduceEq, Int.reduceNe, Int.reduceLT, Int.reduceLE, Int.reduceAdd, Int.reduceSub, Int.reduceMul, Int.reduceNeg, reduceIte, ite_true, ite_false, true_and, and_true, false_and, and_false, true_or, or_true, false_or, or_false, not_true_eq_false, not_false_eq_true, and_self, or_self, eq_self, ite_self, decide_true, decide_false, Bool.true_and, Bool.and_true, Bool.and_self, Bool.false_and, Int.sub_zero, Int.add_zero, Int.zero_add, ax_rw, if_pos, if_neg, ax_w32, ax_o_447, ax_a_448, kr_447_0, ax_a_472, kr_447_41, ax_a_473, kr_447_42, ax_a_474, kr_447_43, g1]
      rw [ax_let]
      simp (disch := first | assumption | omega) only [ax_gt, ax_gi, Option.bind_some, ax_gbl, ax_gb2, ax_gd, Int.reduceEq, Int.reduceNe, Int.reduceLT, Int.reduceLE, Int.reduceAdd, Int.reduceSub, Int.reduceMul, Int.reduceNeg, reduceIte, ite_true, ite_false, true_and, and_true, false_and, and_false, true_or, or_true, false_or, or_false, not_true_eq_false, not_false_eq_true, and_self, or_self, eq_self, ite_self, decide_true, decide_false, Bool.true_and, Bool.and_true, Bool.and_self, Bool.false_and, Int.sub_zero, Int.add_zero, Int.zero_add, ax_rw, if_pos, if_neg, ax_w32, ax_o_447, ax_a_448, kr_447_0, ax_a_472, kr_447_41, ax_a_473, kr_447_42, ax_a_474, kr_447_43, g2]
      rw [ax_let]
      simp (disch := first | assumption | omega) only [ax_gt, ax_gi, Option.bind_some, ax_gbl, ax_gb2, ax_gd, Int.reduceEq, Int.reduceNe, Int.reduceLT, Int.reduceLE, Int.reduceAdd, Int.reduceSub, Int.reduceMul, Int.reduceNeg, reduceIte, ite_true, ite_false, true_and, and_true, false_and, and_false, true_or, or_true, false_or, or_false, not_true_eq_false, not_false_eq_true, and_self, or_self, eq_self, ite_self, decide_true, decide_false, Bool.true_and, Bool.and_true, Bool.and_self, Bool.false_and, Int.sub_zero, Int.add_zero, Int.zero_add, ax_rw, if_pos, if_neg, ax_w32, ax_let, ax_o_447, ax_a_448, kr_447_0, ax_a_472, kr_447_41, ax_a_473, kr_447_42, ax_a_474, kr_447_43, g3]
    show ax_ok (am_Ex d 89 9 _ _ _) _
    rw [key]
    refine hnext () _ ⟨by omega, ax_Kw (ax_Kw (ax_Kw hK' rfl) rfl) rfl, fun c i => ?_⟩
    simp only [ax_rw, hr]
    (repeat' split) <;> first | rfl | (exfalso; omega) | (congr 1; omega)
  · intro _ m' ⟨k0, hK', hr⟩
    show ax_ok (am_Ex d 89 9 _ _ _) _
    rw [aq_89_9, if_neg (by omega)]
    refine ax_loopQ (σ := Unit) (X := fun k _ m' => am_Ex d 89 47 [(2, 447), (0, k)] [] m') (n := 6) (fun k _ m2 => 0 ≤ k ∧ ax_K m2 ∧ ∀ c i, am_rd m2 c i = if c = 448 then (if 204 ≤ i ∧ i < 204 + k then am_rd M 475 (i - 204) else if 210 ≤ i ∧ i < 210 + k then am_rd M 476 (i - 210) else if 216 ≤ i ∧ i < 216 + k then am_rd M 477 (i - 216) else am_rd m' c i) else am_rd m' c i) ?_ ?_ ((6 : Int) - 0).toNat 0 () _ (by omega) ⟨by omega, hK', fun c i => ?_⟩
    · intro k _ m2 ⟨k0, hK2, hr2⟩ k1 hnext
      have g1 : am_rd m2 475 k = am_rd M 475 k := by rw [hr2, hr]; simp only [Int.reduceEq, Int.reduceNe, Int.reduceLT, Int.reduceLE, Int.reduceAdd, Int.reduceSub, Int.reduceMul, Int.reduceNeg, reduceIte, ite_true, ite_false, true_and, and_true, false_and, and_false, true_or, or_true, false_or, or_false, not_true_eq_false, not_false_eq_true, and_self, or_self, eq_self, ite_self, decide_true, decide_false, Bool.true_and, Bool.and_true, Bool.and_self, Bool.false_and, Int.sub_zero, Int.add_zero, Int.zero_add]
      have g2 : am_rd m2 476 k = am_rd M 476 k := by rw [hr2, hr]; simp only [Int.reduceEq, Int.reduceNe, Int.reduceLT, Int.reduceLE, Int.reduceAdd, Int.reduceSub, Int.reduceMul, Int.reduceNeg, reduceIte, ite_true, ite_false, true_and, and_true, false_and, and_false, true_or, or_true, false_or, or_false, not_true_eq_false, not_false_eq_true, and_self, or_self, eq_self, ite_self, decide_true, decide_false, Bool.true_and, Bool.and_true, Bool.and_self, Bool.false_and, Int.sub_zero, Int.add_zero, Int.zero_add]
      have g3 : am_rd m2 477 k = am_rd M 477 k := by rw [hr2, hr]; simp only [Int.reduceEq, Int.reduceNe, Int.reduceLT, Int.reduceLE, Int.reduceAdd, Int.reduceSub, Int.reduceMul, Int.reduceNeg, reduceIte, ite_true, ite_false, true_and, and_true, false_and, and_false, true_or, or_true, false_or, or_false, not_true_eq_false, not_false_eq_true, and_self, or_self, eq_self, ite_self, decide_true, decide_false, Bool.true_and, Bool.and_true, Bool.and_self, Bool.false_and, Int.sub_zero, Int.add_zero, Int.zero_add]
      have key : am_Ex d 89 47 [(2, 447), (0, k)] [] m2 = am_Ex d 89 47 [(2, 447), (0, k + 1)] [] (am_wr (am_wr (am_wr m2 448 (204 + k) (am_rd M 475 k)) 448 (210 + k) (am_rd M 476 k)) 448 (216 + k) (am_rd M 477 k)) := by
        rw [aq_89_47]
        simp (disch := first | assumption | omega) only [ax_gt, ax_gi, Option.bind_some, ax_gbl, ax_gb2, ax_gd, Int.reduceEq, Int.reduceNe, Int.reduceLT, Int.reduceLE, Int.reduceAdd, Int.reduceSub, Int.reduceMul, Int.reduceNeg, reduceIte, ite_true, ite_false, true_and, and_true, false_and, and_false, true_or, or_true, false_or, or_false, not_true_eq_false, not_false_eq_true, and_self, or_self, eq_self, ite_self, decide_true, decide_false, Bool.true_and, Bool.and_true, Bool.and_self, Bool.false_and, Int.sub_zero, Int.add_zero, Int.zero_add, ax_rw, if_pos, if_neg, ax_w32, ax_o_447, ax_a_448, kr_447_0, ax_a_475, kr_447_44, ax_a_476, kr_447_45, ax_a_477, kr_447_46, g1]
        rw [ax_let]
        simp (disch := first | assumption | omega) only [ax_gt, ax_gi, Option.bind_some, ax_gbl, ax_gb2, ax_gd, Int.reduceEq, Int.reduceNe, Int.reduceLT, Int.reduceLE, Int.reduceAdd, Int.reduceSub, Int.reduceMul, Int.reduceNeg, reduceIte, ite_true, ite_false, true_and, and_true, false_and, and_false, true_or, or_true, false_or, or_false, not_true_eq_false, not_false_eq_true, and_self, or_self, eq_self, ite_self, decide_true, decide_false, Bool.true_and, Bool.and_true, Bool.and_self, Bool.false_and, Int.sub_zero, Int.add_zero, Int.zero_add, ax_rw, if_pos, if_neg, ax_w32, ax_o_447, ax_a_448, kr_447_0, ax_a_475, kr_447_44, ax_a_476, kr_447_45, ax_a_477, kr_447_46, g2]
        rw [ax_let]
        simp (disch := first | assumption | omega) only [ax_gt, ax_gi, Option.bind_some, ax_gbl, ax_gb2, ax_gd, Int.reduceEq, Int.reduceNe, Int.reduceLT, Int.reduceLE, Int.reduceAdd, Int.reduceSub, Int.reduceMul, Int.reduceNeg, reduceIte, ite_true, ite_false, true_and, and_true, false_and, and_false, true_or, or_true, false_or, or_false, not_true_eq_false, not_false_eq_true, and_self, or_self, eq_self, ite_self, decide_true, decide_false, Bool.true_and, Bool.and_true, Bool.and_self, Bool.false_and, Int.sub_zero, Int.add_zero, Int.zero_add, ax_rw, if_pos, if_neg, ax_w32, ax_let, ax_o_447, ax_a_448, kr_447_0, ax_a_475, kr_447_44, ax_a_476, kr_447_45, ax_a_477, kr_447_46, g3]
      show ax_ok (am_Ex d 89 47 _ _ _) _
      rw [key]
      refine hnext () _ ⟨by omega, ax_Kw (ax_Kw (ax_Kw hK2 rfl) rfl) rfl, fun c i => ?_⟩
      simp only [ax_rw, hr2]
      (repeat' split) <;> first | rfl | (exfalso; omega) | (congr 1; omega)
    · intro _ m2 ⟨k0, hK2, hr2⟩
      show ax_ok (am_Ex d 89 47 _ _ _) _
      rw [aq_89_47, if_neg (by omega)]
      refine ax_ok_some ⟨?_, ?_⟩
      · intro j j0 j1
        rw [hr2, hr]
        simp only [if_true]
        by_cases h1 : j < 48
        · simp (disch := omega) only [if_pos, if_neg, show 60 + j - 60 = j by omega]
          exact f1 j j0 h1
        by_cases h2 : j < 96
        · simp (disch := omega) only [if_pos, if_neg]
          rw [f2 (60 + j - 108) (by omega) (by omega)]
          congr 1; omega
        by_cases h3 : j < 144
        · simp (disch := omega) only [if_pos, if_neg]
          rw [f3 (60 + j - 156) (by omega) (by omega)]
          congr 1; omega
        by_cases h4 : j < 150
        · simp (disch := omega) only [if_pos, if_neg]
          rw [f4 (60 + j - 204) (by omega) (by omega)]
          congr 1; omega
        by_cases h5 : j < 156
        · simp (disch := omega) only [if_pos, if_neg]
          rw [f5 (60 + j - 210) (by omega) (by omega)]
          congr 1; omega
        by_cases h6 : j < 162
        · simp (disch := omega) only [if_pos, if_neg]
          rw [f6 (60 + j - 216) (by omega) (by omega)]
          congr 1; omega
        · simp (disch := omega) only [if_pos, if_neg]
          rw [f7]
          congr 1; omega
      · intro c i h1
        rw [hr2, hr]
        by_cases hc : c = 448
        · simp (disch := omega) only [if_pos, if_neg]
        · simp (disch := omega) only [if_neg]
    · (repeat' split) <;> first | rfl | (exfalso; omega)
  · rw [ax_rw]
    (repeat' split) <;> first | rfl | (exfalso; omega)
theorem m_157 {m t v : Int} (hK : ax_K M) (N : NH M H) (m0 : 0 ≤ m) (m1 : m < 6) (t0 : 0 ≤ t) (t1 : t < 8) (v0 : -2000000 ≤ v) (v1 : v ≤ 2000000) : ax_ok (am_Call d 157 [(2, 447), (0, m), (0, t), (0, v)] M) (fun _ M' => NH M' (hR H m t v) ∧ NF M M' ∧ ∀ c i, c ≠ 472 → c ≠ 474 → am_rd M' c i = am_rd M c i) := by
  obtain ⟨f1, f2, f3, f4, f5, f6, f7⟩ := N
  have e87 : ∀ d, am_Call d 87 [(1, v), (0, 0), (0, 99)] M = some (hcl 0 99 v, M) := fun d => m_87 (by omega) (by omega)
  have key : am_Call d 157 [(2, 447), (0, m), (0, t), (0, v)] M = some (0, am_wr (am_wr M 472 (8 * m + t) (hcl 0 99 v)) 474 (8 * m + t) (max (H (96 + (8 * m + t))) (hcl 0 99 v))) := by
    rw [aq_157]
    simp (disch := first | assumption | omega) only [ax_gt, ax_gi, Option.bind_some, ax_gbl, ax_gb2, ax_gd, Int.reduceEq, Int.reduceNe, Int.reduceLT, Int.reduceLE, Int.reduceAdd, Int.reduceSub, Int.reduceMul, Int.reduceNeg, reduceIte, ite_true, ite_false, true_and, and_true, false_and, and_false, true_or, or_true, false_or, or_false, not_true_eq_false, not_false_eq_true, and_self, or_self, eq_self, ite_self, decide_true, decide_false, Bool.true_and, Bool.and_true, Bool.and_self, Bool.false_and, Int.sub_zero, Int.add_zero, Int.zero_add, ax_rw, if_pos, if_neg, ax_w32, ax_let, ax_o_447, ax_a_448, kr_447_0, ax_a_472, kr_447_41, ax_a_474, kr_447_43, e87, f3]
    split
    · rename_i h; rw [Int.max_eq_left h]
    · rename_i h; rw [Int.max_eq_right (by omega)]
  rw [key]
  refine ax_ok_some ⟨⟨?_, ?_, ?_, ?_, ?_, ?_, ?_⟩, ?_, ?_⟩
  · intro j j0 j1
    by_cases hj : j = 8 * m + t <;> simp (disch := first | assumption | omega) only [Int.reduceEq, Int.reduceNe, Int.reduceLT, Int.reduceLE, Int.reduceAdd, Int.reduceSub, Int.reduceMul, Int.reduceNeg, reduceIte, ite_true, ite_false, true_and, and_true, false_and, and_false, true_or, or_true, false_or, or_false, not_true_eq_false, not_false_eq_true, and_self, or_self, eq_self, ite_self, decide_true, decide_false, Bool.true_and, Bool.and_true, Bool.and_self, Bool.false_and, Int.sub_zero, Int.add_zero, Int.zero_add, ax_rw, if_pos, if_neg, hR, hu, f1]
  · intro j j0 j1
    simp (disch := first | assumption | omega) only [Int.reduceEq, Int.reduceNe, Int.reduceLT, Int.reduceLE, Int.reduceAdd, Int.reduceSub, Int.reduceMul, Int.reduceNeg, reduceIte, ite_true, ite_false, true_and, and_true, false_and, and_false, true_or, or_true, false_or, or_false, not_true_eq_false, not_false_eq_true, and_self, or_self, eq_self, ite_self, decide_true, decide_false, Bool.true_and, Bool.and_true, Bool.and_self, Bool.false_and, Int.sub_zero, Int.add_zero, Int.zero_add, ax_rw, if_pos, if_neg, hR, hu, f2]
  · intro j j0 j1
    by_cases hj : j = 8 * m + t <;> simp (disch := first | assumption | omega) only [Int.reduceEq, Int.reduceNe, Int.reduceLT, Int.reduceLE, Int.reduceAdd, Int.reduceSub, Int.reduceMul, Int.reduceNeg, reduceIte, ite_true, ite_false, true_and, and_true, false_and, and_false, true_or, or_true, false_or, or_false, not_true_eq_false, not_false_eq_true, and_self, or_self, eq_self, ite_self, decide_true, decide_false, Bool.true_and, Bool.and_true, Bool.and_self, Bool.false_and, Int.sub_zero, Int.add_zero, Int.zero_add, ax_rw, if_pos, if_neg, hR, hu, f3]
  · intro j j0 j1
    simp (disch := first | assumption | omega) only [Int.reduceEq, Int.reduceNe, Int.reduceLT, Int.reduceLE, Int.reduceAdd, Int.reduceSub, Int.reduceMul, Int.reduceNeg, reduceIte, ite_true, ite_false, true_and, and_true, false_and, and_false, true_or, or_true, false_or, or_false, not_true_eq_false, not_false_eq_true, and_self, or_self, eq_self, ite_self, decide_true, decide_false, Bool.true_and, Bool.and_true, Bool.and_self, Bool.false_and, Int.sub_zero, Int.add_zero, Int.zero_add, ax_rw, if_pos, if_neg, hR, hu, f4]
  · intro j j0 j1
    simp (disch := first | assumption | omega) only [Int.reduceEq, Int.reduceNe, Int.reduceLT, Int.reduceLE, Int.reduceAdd, Int.reduceSub, Int.reduceMul, Int.reduceNeg, reduceIte, ite_true, ite_false, true_and, and_true, false_and, and_false, true_or, or_true, false_or, or_false, not_true_eq_false, not_false_eq_true, and_self, or_self, eq_self, ite_self, decide_true, decide_false, Bool.true_and, Bool.and_true, Bool.and_self, Bool.false_and, Int.sub_zero, Int.add_zero, Int.zero_add, ax_rw, if_pos, if_neg, hR, hu, f5]
  · intro j j0 j1
    simp (disch := first | assumption | omega) only [Int.reduceEq, Int.reduceNe, Int.reduceLT, Int.reduceLE, Int.reduceAdd, Int.reduceSub, Int.reduceMul, Int.reduceNeg, reduceIte, ite_true, ite_false, true_and, and_true, false_and, and_false, true_or, or_true, false_or, or_false, not_true_eq_false, not_false_eq_true, and_self, or_self, eq_self, ite_self, decide_true, decide_false, Bool.true_and, Bool.and_true, Bool.and_self, Bool.false_and, Int.sub_zero, Int.add_zero, Int.zero_add, ax_rw, if_pos, if_neg, hR, hu, f6]
  · simp (disch := first | assumption | omega) only [Int.reduceEq, Int.reduceNe, Int.reduceLT, Int.reduceLE, Int.reduceAdd, Int.reduceSub, Int.reduceMul, Int.reduceNeg, reduceIte, ite_true, ite_false, true_and, and_true, false_and, and_false, true_or, or_true, false_or, or_false, not_true_eq_false, not_false_eq_true, and_self, or_self, eq_self, ite_self, decide_true, decide_false, Bool.true_and, Bool.and_true, Bool.and_self, Bool.false_and, Int.sub_zero, Int.add_zero, Int.zero_add, ax_rw, if_pos, if_neg, hR, hu, f7]
  · intro c i h1 h2 h3 h4
    simp (disch := first | assumption | omega) only [Int.reduceEq, Int.reduceNe, Int.reduceLT, Int.reduceLE, Int.reduceAdd, Int.reduceSub, Int.reduceMul, Int.reduceNeg, reduceIte, ite_true, ite_false, true_and, and_true, false_and, and_false, true_or, or_true, false_or, or_false, not_true_eq_false, not_false_eq_true, and_self, or_self, eq_self, ite_self, decide_true, decide_false, Bool.true_and, Bool.and_true, Bool.and_self, Bool.false_and, Int.sub_zero, Int.add_zero, Int.zero_add, ax_rw, if_neg]
  · intro c i h1 h2
    simp (disch := first | assumption | omega) only [Int.reduceEq, Int.reduceNe, Int.reduceLT, Int.reduceLE, Int.reduceAdd, Int.reduceSub, Int.reduceMul, Int.reduceNeg, reduceIte, ite_true, ite_false, true_and, and_true, false_and, and_false, true_or, or_true, false_or, or_false, not_true_eq_false, not_false_eq_true, and_self, or_self, eq_self, ite_self, decide_true, decide_false, Bool.true_and, Bool.and_true, Bool.and_self, Bool.false_and, Int.sub_zero, Int.add_zero, Int.zero_add, ax_rw, if_neg]
theorem NH_W {m t v : Int} (N : NH M H) (m0 : 0 ≤ m) (m1 : m < 6) (t0 : 0 ≤ t) (t1 : t < 8) : NH (am_wr M 473 (8 * m + t) (hcl 0 99 v)) (hW H m t v) := by
  obtain ⟨f1, f2, f3, f4, f5, f6, f7⟩ := N
  refine ⟨?_, ?_, ?_, ?_, ?_, ?_, ?_⟩
  · intro j j0 j1
    simp (disch := first | assumption | omega) only [Int.reduceEq, Int.reduceNe, Int.reduceLT, Int.reduceLE, Int.reduceAdd, Int.reduceSub, Int.reduceMul, Int.reduceNeg, reduceIte, ite_true, ite_false, true_and, and_true, false_and, and_false, true_or, or_true, false_or, or_false, not_true_eq_false, not_false_eq_true, and_self, or_self, eq_self, ite_self, decide_true, decide_false, Bool.true_and, Bool.and_true, Bool.and_self, Bool.false_and, Int.sub_zero, Int.add_zero, Int.zero_add, ax_rw, if_pos, if_neg, hW, hu, f1]
  · intro j j0 j1
    by_cases hj : j = 8 * m + t <;> simp (disch := first | assumption | omega) only [Int.reduceEq, Int.reduceNe, Int.reduceLT, Int.reduceLE, Int.reduceAdd, Int.reduceSub, Int.reduceMul, Int.reduceNeg, reduceIte, ite_true, ite_false, true_and, and_true, false_and, and_false, true_or, or_true, false_or, or_false, not_true_eq_false, not_false_eq_true, and_self, or_self, eq_self, ite_self, decide_true, decide_false, Bool.true_and, Bool.and_true, Bool.and_self, Bool.false_and, Int.sub_zero, Int.add_zero, Int.zero_add, ax_rw, if_pos, if_neg, hW, hu, f2]
  · intro j j0 j1
    simp (disch := first | assumption | omega) only [Int.reduceEq, Int.reduceNe, Int.reduceLT, Int.reduceLE, Int.reduceAdd, Int.reduceSub, Int.reduceMul, Int.reduceNeg, reduceIte, ite_true, ite_false, true_and, and_true, false_and, and_false, true_or, or_true, false_or, or_false, not_true_eq_false, not_false_eq_true, and_self, or_self, eq_self, ite_self, decide_true, decide_false, Bool.true_and, Bool.and_true, Bool.and_self, Bool.false_and, Int.sub_zero, Int.add_zero, Int.zero_add, ax_rw, if_pos, if_neg, hW, hu, f3]
  · intro j j0 j1
    simp (disch := first | assumption | omega) only [Int.reduceEq, Int.reduceNe, Int.reduceLT, Int.reduceLE, Int.reduceAdd, Int.reduceSub, Int.reduceMul, Int.reduceNeg, reduceIte, ite_true, ite_false, true_and, and_true, false_and, and_false, true_or, or_true, false_or, or_false, not_true_eq_false, not_false_eq_true, and_self, or_self, eq_self, ite_self, decide_true, decide_false, Bool.true_and, Bool.and_true, Bool.and_self, Bool.false_and, Int.sub_zero, Int.add_zero, Int.zero_add, ax_rw, if_pos, if_neg, hW, hu, f4]
  · intro j j0 j1
    simp (disch := first | assumption | omega) only [Int.reduceEq, Int.reduceNe, Int.reduceLT, Int.reduceLE, Int.reduceAdd, Int.reduceSub, Int.reduceMul, Int.reduceNeg, reduceIte, ite_true, ite_false, true_and, and_true, false_and, and_false, true_or, or_true, false_or, or_false, not_true_eq_false, not_false_eq_true, and_self, or_self, eq_self, ite_self, decide_true, decide_false, Bool.true_and, Bool.and_true, Bool.and_self, Bool.false_and, Int.sub_zero, Int.add_zero, Int.zero_add, ax_rw, if_pos, if_neg, hW, hu, f5]
  · intro j j0 j1
    simp (disch := first | assumption | omega) only [Int.reduceEq, Int.reduceNe, Int.reduceLT, Int.reduceLE, Int.reduceAdd, Int.reduceSub, Int.reduceMul, Int.reduceNeg, reduceIte, ite_true, ite_false, true_and, and_true, false_and, and_false, true_or, or_true, false_or, or_false, not_true_eq_false, not_false_eq_true, and_self, or_self, eq_self, ite_self, decide_true, decide_false, Bool.true_and, Bool.and_true, Bool.and_self, Bool.false_and, Int.sub_zero, Int.add_zero, Int.zero_add, ax_rw, if_pos, if_neg, hW, hu, f6]
  · simp (disch := first | assumption | omega) only [Int.reduceEq, Int.reduceNe, Int.reduceLT, Int.reduceLE, Int.reduceAdd, Int.reduceSub, Int.reduceMul, Int.reduceNeg, reduceIte, ite_true, ite_false, true_and, and_true, false_and, and_false, true_or, or_true, false_or, or_false, not_true_eq_false, not_false_eq_true, and_self, or_self, eq_self, ite_self, decide_true, decide_false, Bool.true_and, Bool.and_true, Bool.and_self, Bool.false_and, Int.sub_zero, Int.add_zero, Int.zero_add, ax_rw, if_pos, if_neg, hW, hu, f7]
end
