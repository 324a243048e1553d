/-! the turns each man had: both sides' tables -/
section
variable {M : am_M} {d : Nat} {n T al : Int} {P W H : Int → Int} {cd : Int → Option (List (Int × Int))}
theorem c_241 (hK : ax_K M) (C : CH M 8 n H) (E : CE M T n al P W cd) (S : ES T n al P W cd) (B : HB T H) (hn : am_rd M 2 6 = n) (n0 : 0 ≤ n) (n6 : n ≤ 6) : ax_ok (am_Call d 241 [(2, 442)] M) (fun _ M' => (∀ j, 0 ≤ j → j < n → am_rd M' 443 j = hHad T P W cd H j) ∧ ∀ c i, c ≠ 40 → c ≠ 41 → c ≠ 443 → am_rd M' c i = am_rd M c i) := by
  rw [aq_241]
  refine ax_loopM (σ := Unit) (X := fun k _ m' => am_Ex d 241 3 [(2, 442), (0, k)] [] m') (n := n) (fun k _ m' => 0 ≤ k ∧ ax_K m' ∧ (∀ j, 0 ≤ j → j < k → am_rd m' 443 j = hHad T P W cd H j) ∧ ∀ c i, c ≠ 40 → c ≠ 41 → c ≠ 443 → am_rd m' c i = am_rd M c i) ?_ ?_ (n - 0).toNat 0 () M (by omega) ⟨by omega, hK, fun j h0 h1 => by omega, fun _ _ _ _ _ => rfl⟩
  · intro k _ m ⟨k0, hK', hv, hf⟩ k1
    have h6 : am_rd m 2 6 = n := (hf _ _ (by omega) (by omega) (by omega)).trans hn
    obtain ⟨r, M1, e, q, f⟩ := c_209 (d := d) hK' (Or.inl rfl) (CH_same C fun c i h1 h2 => hf c i (by omega) (by omega) (by omega)) (CE_same E fun c i h => hf c i (by omega) (by omega) (by omega)) S B k0 k1
    have K1 := ax_Kp e hK' rfl
    refine ⟨(), am_wr M1 443 k r, ?_, by omega, ax_Kw K1 rfl, ?_, ?_⟩
    · show am_Ex d 241 3 _ _ _ = am_Ex d 241 3 _ _ _
      rw [aq_241_3]
      simp (disch := first | assumption | omega) only [ax_gt, ax_gi, Option.bind_some, ax_gbl, ax_gb2, ax_gd, Int.reduceEq, Int.reduceNe, Int.reduceLT, Int.reduceLE, Int.reduceAdd, Int.reduceSub, Int.reduceMul, Int.reduceNeg, reduceIte, ite_true, ite_false, true_and, and_true, false_and, and_false, true_or, or_true, false_or, or_false, not_true_eq_false, not_false_eq_true, and_self, or_self, eq_self, ite_self, decide_true, decide_false, Bool.true_and, Bool.and_true, Bool.and_self, Bool.false_and, Int.add_zero, Int.zero_add, ax_rw, if_pos, if_neg, ax_o_2, kr_2_0, kr_2_1, kr_2_2, kr_2_3, kr_2_4, ax_a_3, ax_a_4, ax_a_5, ax_a_6, ax_a_7, ax_o_442, kr_442_0, kr_442_1, kr_442_2, kr_442_3, ax_a_443, ax_o_39, kr_39_0, kr_39_1, kr_39_2, kr_39_3, ax_a_40, ax_a_41, h6, e]
      rw [ax_let, ax_w32 (by omega) (by omega), ax_let]
    · intro j j0 j1
      by_cases h : j = k
      · rw [h, ax_rwp, q]
      · rw [ax_rwn (by omega), f _ _ (by omega) (by omega)]
        exact hv j j0 (by omega)
    · intro c i h1 h2 h3
      rw [ax_rwn (by omega), f c i h1 h2]
      exact hf c i h1 h2 h3
  · intro _ m ⟨k0, hK', hv, hf⟩
    have h6 : am_rd m 2 6 = n := (hf _ _ (by omega) (by omega) (by omega)).trans hn
    show ax_ok (am_Ex d 241 3 _ _ _) _
    rw [aq_241_3]
    simp (disch := first | assumption | omega) only [ax_gt, ax_gi, Option.bind_some, ax_gbl, ax_gb2, ax_gd, Int.reduceEq, Int.reduceNe, Int.reduceLT, Int.reduceLE, Int.reduceAdd, Int.reduceSub, Int.reduceMul, Int.reduceNeg, reduceIte, ite_true, ite_false, true_and, and_true, false_and, and_false, true_or, or_true, false_or, or_false, not_true_eq_false, not_false_eq_true, and_self, or_self, eq_self, ite_self, decide_true, decide_false, Bool.true_and, Bool.and_true, Bool.and_self, Bool.false_and, Int.add_zero, Int.zero_add, ax_rw, if_pos, if_neg, ax_o_2, kr_2_0, kr_2_1, kr_2_2, kr_2_3, kr_2_4, ax_a_3, ax_a_4, ax_a_5, ax_a_6, ax_a_7, ax_o_442, kr_442_0, kr_442_1, kr_442_2, kr_442_3, ax_a_443, h6, Int.lt_irrefl]
    exact ax_ok_some ⟨hv, hf⟩
end
