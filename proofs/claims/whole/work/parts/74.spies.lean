/-! spies: what each had by itself, and which is better -/
section
variable {M : am_M} {d : Nat} {n T x : Int} {L V : Int → Int}
def weG (L V : Int → Int) (T x i s : Int) : Int := if am_and (am_shr x i) 1 = 0 then am_w32 (s + 0) else am_w32 (s + wtF V T (L i))
def weF (L V : Int → Int) (n T x : Int) : Int := ax_fo (weG L V T x) (n - 0).toNat 0 0
theorem c_131 (hK : ax_K M) (b : cg_B M) (hn : am_rd M 2 6 = n) (hT : am_rd M 2 5 = T) (n0 : 0 ≤ n) (n6 : n ≤ 6) (hL : ∀ j, 0 ≤ j → j < n → am_rd M 443 j = L j) (hV : ∀ j, 0 ≤ j → j < T → am_rd M 3 j = V j) : am_Call d 131 [(2, 442), (0, x)] M = some (weF L V n T x, M) := by
  have ew : ∀ y, ax_fo (fun t s => am_w32 (s + am_w32 (am_and (am_shr y t) 1 * am_rd M 3 t))) (T - 0).toNat 0 0 = wtF V T y := fun y => ax_fo_congr _ _ _ fun i a h1 h2 => by rw [hV i h1 (by omega)]
  rw [aq_131]
  unfold weF
  refine ax_loop (X := fun k s => am_Ex d 131 5 [(2, 442), (0, x), (0, s), (0, k)] [] M) (E := fun s => some (s, M)) (n := n) (fun k _ => 0 ≤ k) ?_ ?_ _ _ _ (by omega) (by omega)
  · intro k s k0 k1
    refine ⟨?_, by omega⟩
    show am_Ex d 131 5 _ _ _ = am_Ex d 131 5 _ _ _
    rw [aq_131_5, kr_442_0 hK, kr_442_3 hK, show am_ob 442 7 = true from rfl, show am_ob 2 2 = true from rfl, ax_gt, ax_gt, hn, if_pos k1, if_pos (by omega)]
    unfold weG
    by_cases h : am_and (am_shr x k) 1 = 0
    · rw [if_pos h, if_pos h, ax_let, ax_w32 (x := k + 1) (by omega) (by omega), ax_let]
    · rw [if_neg h, if_neg h]
      simp (disch := first | assumption | omega) only [ax_gt, ax_gi, Option.bind_some, ax_gbl, ax_gb2, ax_gd, Int.reduceEq, Int.reduceNe, Int.reduceLT, Int.reduceLE, Int.reduceAdd, Int.reduceSub, Int.reduceMul, Int.reduceNeg, reduceIte, ite_true, ite_false, true_and, and_true, false_and, and_false, true_or, or_true, false_or, or_false, not_true_eq_false, not_false_eq_true, and_self, or_self, eq_self, ite_self, decide_true, decide_false, Bool.true_and, Bool.and_true, Bool.and_self, Bool.false_and, Int.add_zero, Int.zero_add, ax_o_442, kr_442_0, kr_442_1, kr_442_2, kr_442_3, ax_a_443]
      rw [c_18 hK b, Option.bind_some]
      dsimp only []
      rw [ax_let, ax_w32 (x := k + 1) (by omega) (by omega), ax_let, hT, ew, hL k k0 k1]
  · intro s _
    show am_Ex d 131 5 _ _ _ = _
    rw [aq_131_5, kr_442_0 hK, show am_ob 442 7 = true from rfl, show am_ob 2 2 = true from rfl, ax_gt, ax_gt, hn, if_neg (by omega)]
theorem m_204 (hK : ax_K M) (hn : am_rd M 448 1 = n) (hT : am_rd M 448 0 = T) (n0 : 0 ≤ n) (n6 : n ≤ 6) (T0 : 0 ≤ T) (T8 : T ≤ 8) (hw : ∀ j, 0 ≤ j → j < 8 → 0 ≤ am_rd M 448 (10 + j) ∧ am_rd M 448 (10 + j) ≤ 99) (hL : ∀ j, 0 ≤ j → j < n → am_rd M 483 j = L j) (hV : ∀ j, 0 ≤ j → j < T → am_rd M 448 (10 + j) = V j) : am_Call d 204 [(2, 447), (0, x)] M = some (weF L V n T x, M) := by
  have ew : ∀ y, ax_fo (fun t s => am_w32 (s + am_w32 (am_and (am_shr y t) 1 * am_rd M 448 (10 + t)))) (T - 0).toNat 0 0 = wtF V T y := fun y => ax_fo_congr _ _ _ fun i a h1 h2 => by rw [hV i h1 (by omega)]
  rw [aq_204]
  unfold weF
  refine ax_loop (X := fun k s => am_Ex d 204 5 [(2, 447), (0, x), (0, s), (0, k)] [] M) (E := fun s => some (s, M)) (n := n) (fun k _ => 0 ≤ k) ?_ ?_ _ _ _ (by omega) (by omega)
  · intro k s k0 k1
    refine ⟨?_, by omega⟩
    show am_Ex d 204 5 _ _ _ = am_Ex d 204 5 _ _ _
    rw [aq_204_5, kr_447_0 hK, show am_ob 447 11 = true from rfl, ax_gt]
    simp only [ax_a_448]
    simp (disch := first | assumption | omega) only [ax_gt, ax_gi, Option.bind_some, ax_gbl, ax_gb2, ax_gd]
    rw [hn, if_pos k1, m_65, Option.bind_some]
    dsimp only []
    unfold weG
    by_cases h : am_and (am_shr x k) 1 = 0
    · rw [if_pos (by rw [ax_b0]; omega), if_pos h, ax_let, ax_w32 (x := k + 1) (by omega) (by omega), ax_let]
    · rw [if_neg (by rw [ax_b0]; exact fun q => q ((Decidable.not_not.mp fun r => h (by rw [ax_a0]; exact r)))), if_neg h, kr_447_53 hK, ax_a_483]
      simp (disch := first | assumption | omega) only [ax_gt, ax_gi, Option.bind_some, ax_gbl, ax_gb2, ax_gd, Int.reduceEq, Int.reduceNe, Int.reduceLT, Int.reduceLE, Int.reduceAdd, Int.reduceSub, Int.reduceMul, Int.reduceNeg, reduceIte, ite_true, ite_false, true_and, and_true, false_and, and_false, true_or, or_true, false_or, or_false, not_true_eq_false, not_false_eq_true, and_self, or_self, eq_self, ite_self, decide_true, decide_false, Bool.true_and, Bool.and_true, Bool.and_self, Bool.false_and, Int.add_zero, Int.zero_add]
      rw [m_165 hK hT T0 T8 hw, Option.bind_some]
      dsimp only []
      rw [ax_let, ax_w32 (x := k + 1) (by omega) (by omega), ax_let, ew, hL k k0 k1]
  · intro s _
    show am_Ex d 204 5 _ _ _ = _
    rw [aq_204_5, kr_447_0 hK, show am_ob 447 11 = true from rfl, ax_gt]
    simp only [ax_a_448]
    simp (disch := first | assumption | omega) only [ax_gt, ax_gi, Option.bind_some, ax_gbl, ax_gb2, ax_gd]
    rw [hn, if_neg (by omega)]
theorem c_180 {k s : Int} (hK : ax_K M) (b : cg_B M) (hn : am_rd M 2 6 = n) (hT : am_rd M 2 5 = T) (n0 : 0 ≤ n) (n6 : n ≤ 6) (hL : ∀ j, 0 ≤ j → j < n → am_rd M 443 j = L j) (hV : ∀ j, 0 ≤ j → j < T → am_rd M 3 j = V j) (k0 : 0 ≤ k) (k1 : k < 256) (s0 : 0 ≤ s) (s1 : s < 256) : am_Call d 180 [(2, 442), (0, k), (0, s)] M = some (if ax_cn k < ax_cn s then 1 else if ax_cn k = ax_cn s then (if weF L V n T k ≤ weF L V n T s then 0 else 1) else 0, M) := by
  rw [aq_180, c_99 k0 k1, Option.bind_some]
  dsimp only []
  rw [c_99 s0 s1, Option.bind_some]
  dsimp only []
  by_cases h1 : ax_cn k < ax_cn s
  · rw [if_pos h1, if_pos h1, aq_180_20]
  · rw [if_neg h1, if_neg h1]
    by_cases h2 : ax_cn k = ax_cn s
    · rw [if_pos h2, if_pos h2, show am_ob 442 7 = true from rfl, ax_gt, c_131 hK b hn hT n0 n6 hL hV, Option.bind_some]
      dsimp only []
      rw [c_131 hK b hn hT n0 n6 hL hV, Option.bind_some]
      dsimp only []
      by_cases h3 : weF L V n T k ≤ weF L V n T s
      · rw [if_pos h3, if_pos h3]
      · rw [if_neg h3, if_neg h3, aq_180_20]
    · rw [if_neg h2, if_neg h2]
end
