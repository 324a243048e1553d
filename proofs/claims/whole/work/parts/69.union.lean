/-! what some men had together -/
section
variable {M : am_M} {d : Nat} {n x : Int}
def unF (L : Int → Int) (x : Int) (i s : Int) : Int := if am_and (am_shr x i) 1 = 0 then am_or s 0 else am_or s (L i)
theorem c_48 (hK : ax_K M) (hn : am_rd M 2 6 = n) (n0 : 0 ≤ n) (n6 : n ≤ 6) : am_Call d 48 [(2, 442), (0, x)] M = some (ax_fo (unF (fun i => am_rd M 443 i) x) (n - 0).toNat 0 0, M) := by
  rw [aq_48]
  refine ax_loop (X := fun k s => am_Ex d 48 5 [(2, 442), (0, x), (0, s), (0, k)] [] M) (E := fun s => some (s, M)) (n := n) (fun k _ => 0 ≤ k) ?_ ?_ _ _ _ (by omega) (by omega)
  · intro k s k0 k1
    refine ⟨?_, by omega⟩
    show am_Ex d 48 5 _ _ _ = am_Ex d 48 5 _ _ _
    rw [aq_48_5, kr_442_0 hK, kr_442_3 hK, show am_ob 442 7 = true from rfl, show am_ob 2 2 = true from rfl, ax_gt, ax_gt, hn, if_pos k1, if_pos (by omega)]
    unfold unF
    by_cases h : am_and (am_shr x k) 1 = 0
    · rw [if_pos h, if_pos h, ax_let, ax_w32 (by omega) (by omega), ax_let]
    · rw [if_neg h, if_neg h]
      simp (disch := first | assumption | omega) only [ax_gt, ax_gi, Option.bind_some, ax_gbl, ax_gb2, ax_gd, Int.reduceEq, Int.reduceNe, Int.reduceLT, Int.reduceLE, Int.reduceAdd, Int.reduceSub, Int.reduceMul, Int.reduceNeg, reduceIte, ite_true, ite_false, true_and, and_true, false_and, and_false, true_or, or_true, false_or, or_false, not_true_eq_false, not_false_eq_true, and_self, or_self, eq_self, ite_self, decide_true, decide_false, Bool.true_and, Bool.and_true, Bool.and_self, Bool.false_and, Int.add_zero, Int.zero_add, ax_o_442, kr_442_0, kr_442_1, kr_442_2, kr_442_3, ax_a_443]
      rw [ax_let, ax_w32 (by omega) (by omega), ax_let]
  · intro s _
    show am_Ex d 48 5 _ _ _ = _
    rw [aq_48_5, kr_442_0 hK, show am_ob 442 7 = true from rfl, show am_ob 2 2 = true from rfl, ax_gt, ax_gt, hn, if_neg (by omega)]
theorem m_166 (hK : ax_K M) (hn : am_rd M 448 1 = n) (n0 : 0 ≤ n) (n6 : n ≤ 6) : am_Call d 166 [(2, 447), (0, x)] M = some (ax_fo (unF (fun i => am_rd M 483 i) x) (n - 0).toNat 0 0, M) := by
  rw [aq_166]
  refine ax_loop (X := fun k s => am_Ex d 166 5 [(2, 447), (0, x), (0, s), (0, k)] [] M) (E := fun s => some (s, M)) (n := n) (fun k _ => 0 ≤ k) ?_ ?_ _ _ _ (by omega) (by omega)
  · intro k s k0 k1
    refine ⟨?_, by omega⟩
    show am_Ex d 166 5 _ _ _ = am_Ex d 166 5 _ _ _
    rw [aq_166_5, kr_447_0 hK, show am_ob 447 11 = true from rfl, ax_gt]
    simp only [ax_a_448]
    simp (disch := first | assumption | omega) only [ax_gt, ax_gi, Option.bind_some, ax_gbl, ax_gb2, ax_gd]
    rw [hn, if_pos k1, m_65, Option.bind_some]
    dsimp only []
    unfold unF
    by_cases h : am_and (am_shr x k) 1 = 0
    · rw [if_pos (by rw [ax_b0]; omega), if_pos h, ax_let, ax_w32 (by omega) (by omega), ax_let]
    · rw [if_neg (by rw [ax_b0]; exact fun q => q ((Decidable.not_not.mp fun r => h (by rw [ax_a0]; exact r)))), if_neg h, kr_447_53 hK, ax_a_483]
      simp (disch := first | assumption | omega) only [ax_gt, ax_gi, Option.bind_some, ax_gbl, ax_gb2, ax_gd, Int.reduceEq, Int.reduceNe, Int.reduceLT, Int.reduceLE, Int.reduceAdd, Int.reduceSub, Int.reduceMul, Int.reduceNeg, reduceIte, ite_true, ite_false, true_and, and_true, false_and, and_false, true_or, or_true, false_or, or_false, not_true_eq_false, not_false_eq_true, and_self, or_self, eq_self, ite_self, decide_true, decide_false, Bool.true_and, Bool.and_true, Bool.and_self, Bool.false_and, Int.add_zero, Int.zero_add]
      rw [ax_let, ax_w32 (by omega) (by omega), ax_let]
  · intro s _
    show am_Ex d 166 5 _ _ _ = _
    rw [aq_166_5, kr_447_0 hK, show am_ob 447 11 = true from rfl, ax_gt]
    simp only [ax_a_448]
    simp (disch := first | assumption | omega) only [ax_gt, ax_gi, Option.bind_some, ax_gbl, ax_gb2, ax_gd]
    rw [hn, if_neg (by omega)]
end
