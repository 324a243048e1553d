/-! the model's table -/
section
variable {M : am_M} {d : Nat} {n T al : Int} {P W H : Int → Int} {cd : Int → Option (List (Int × Int))}
theorem m_271 (hK : ax_K M) (F : FH M 448 60 H) (E : ME M T n al P W cd) (S : ES T n al P W cd) (B : HB T H) (hn : am_rd M 448 1 = n) (n0 : 0 ≤ n) (n6 : n ≤ 6) (h53 : am_rd M 447 53 = 483) (a53 : ∀ i, am_ar 483 20 i = (decide (0 ≤ i) && decide (i < 6))) : ax_ok (am_Call d 271 [(2, 447)] M) (fun _ M' => (∀ j, 0 ≤ j → j < n → am_rd M' 483 j = hHad T P W cd H j) ∧ ∀ c i, c ≠ 483 → c ≠ 470 → c ≠ 471 → (c < 472 ∨ 477 < c) → ¬ (c = 447 ∧ i = 47) → am_rd M' c i = am_rd M c i) := by
  obtain ⟨r0, M0, e0, C, F0⟩ := m_88 (d := d) hK F
  have K0 := ax_Kp e0 hK rfl
  have n1 : am_rd M0 448 1 = n := (F0 _ _ (by omega) (by omega) (by omega) (by omega)).trans hn
  have h53' : am_rd M0 447 53 = 483 := (F0 _ _ (by omega) (by omega) (by omega) (by omega)).trans h53
  have E0 := NF_ME E F0
  rw [aq_271, show am_ob 447 11 = true from rfl, ax_gt, e0, Option.bind_some]
  refine ax_loopM (σ := Unit) (X := fun k _ m' => am_Ex d 271 5 [(2, 447), (0, k)] [] m') (n := n) (fun k _ m' => 0 ≤ k ∧ ax_K m' ∧ (∀ j, 0 ≤ j → j < k → am_rd m' 483 j = hHad T P W cd H j) ∧ ∀ c i, c ≠ 470 → c ≠ 471 → c ≠ 483 → am_rd m' c i = am_rd M0 c i) ?_ ?_ (n - 0).toNat 0 () M0 (by omega) ⟨by omega, K0, fun j h0 h1 => by omega, fun _ _ _ _ _ => rfl⟩
  · intro k _ m ⟨k0, hK', hv, hf⟩ k1
    have h6 : am_rd m 448 1 = n := (hf _ _ (by omega) (by omega) (by omega)).trans n1
    have g53 : am_rd m 447 53 = 483 := (hf _ _ (by omega) (by omega) (by omega)).trans h53'
    obtain ⟨r, M1, e, q, f⟩ := m_251 (d := d) hK' (NH_same C fun c i h => hf c i (by omega) (by omega) (by omega)) (ME_same E0 fun c i h => hf c i (by omega) (by omega) (by omega)) S B k0 (by omega : k < 6)
    have K1 := ax_Kp e hK' rfl
    refine ⟨(), am_wr M1 483 k r, ?_, by omega, ax_Kw K1 rfl, ?_, ?_⟩
    · show am_Ex d 271 5 _ _ _ = am_Ex d 271 5 _ _ _
      rw [aq_271_5, g53, a53]
      simp (disch := first | assumption | omega) only [ax_gt, ax_gi, Option.bind_some, ax_gbl, ax_gb2, ax_gd, Int.reduceEq, Int.reduceNe, Int.reduceLT, Int.reduceLE, Int.reduceAdd, Int.reduceSub, Int.reduceMul, Int.reduceNeg, reduceIte, ite_true, ite_false, true_and, and_true, false_and, and_false, true_or, or_true, false_or, or_false, not_true_eq_false, not_false_eq_true, and_self, or_self, eq_self, ite_self, decide_true, decide_false, Bool.true_and, Bool.and_true, Bool.and_self, Bool.false_and, Int.add_zero, Int.zero_add, ax_rw, if_pos, if_neg, ax_o_447, ax_a_448, kr_447_0, h6, e]
      rw [ax_let, ax_w32 (by omega) (by omega), ax_let]
    · intro j j0 j1
      by_cases h : j = k
      · rw [h, ax_rwp, q]
      · rw [ax_rwn (by omega), f _ _ (by omega) (by omega)]
        exact hv j j0 (by omega)
    · intro c i h1 h2 h3
      rw [ax_rwn (by omega), f c i h1 h2]
      exact hf c i h1 h2 h3
  · intro _ m ⟨k0, hK', hv, hf⟩
    have h6 : am_rd m 448 1 = n := (hf _ _ (by omega) (by omega) (by omega)).trans n1
    show ax_ok (am_Ex d 271 5 _ _ _) _
    rw [aq_271_5]
    simp (disch := first | assumption | omega) only [ax_gt, ax_gi, Option.bind_some, ax_gbl, ax_gb2, ax_gd, Int.reduceEq, Int.reduceNe, Int.reduceLT, Int.reduceLE, Int.reduceAdd, Int.reduceSub, Int.reduceMul, Int.reduceNeg, reduceIte, ite_true, ite_false, true_and, and_true, false_and, and_false, true_or, or_true, false_or, or_false, not_true_eq_false, not_false_eq_true, and_self, or_self, eq_self, ite_self, decide_true, decide_false, Bool.true_and, Bool.and_true, Bool.and_self, Bool.false_and, Int.add_zero, Int.zero_add, ax_rw, if_pos, if_neg, ax_o_447, ax_a_448, kr_447_0, h6, Int.lt_irrefl]
    exact ax_ok_some ⟨hv, fun c i h1 h2 h3 h4 h5 => (hf c i h2 h3 h1).trans (F0 c i h2 h3 h4 h5)⟩
end
