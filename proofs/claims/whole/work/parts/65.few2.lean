/-! fewSmells -/
section
variable {M : am_M} {d : Nat}
def fwT (M : am_M) (x : Int) : Int := bk (fun t => am_rd M 448 (18 + t)) (am_rd M 448 0) (ax_fo (fun i s => if am_and (am_shr x i) 1 = 1 then am_or s (am_rd M 448 (32 + i)) else am_or s 0) (am_rd M 448 2 - 0).toNat 0 0)
theorem m_201 (a : RR M) {x : Int} : ∀ d, am_Call d 201 [(2, 447), (0, x)] M = some (fwT M x, M) := by
  have hK := a.1
  have mB := RR_mB a
  have bS := a.2.1.2.1.1.2.2.1
  have bT := a.2.1.2.1.1.1
  have fr : 0 ≤ ax_fo (fun i s => if am_and (am_shr x i) 1 = 1 then am_or s (am_rd M 448 (32 + i)) else am_or s 0) (am_rd M 448 2 - 0).toNat 0 0 ∧ ax_fo (fun i s => if am_and (am_shr x i) 1 = 1 then am_or s (am_rd M 448 (32 + i)) else am_or s 0) (am_rd M 448 2 - 0).toNat 0 0 < ((2 ^ (am_rd M 448 0).toNat : Nat) : Int) := by
    have p8 := pw8 bT.1 bT.2
    have p1 : 1 ≤ (2 ^ (am_rd M 448 0).toNat : Nat) := Nat.one_le_two_pow
    refine ax_fo_inv (P := fun _ s => 0 ≤ s ∧ s < ((2 ^ (am_rd M 448 0).toNat : Nat) : Int)) _ _ _ (fun i s i0 i1 hs => ?_) (by omega)
    have bs := a.2.1.2.1.2.2.2.2.2.1 i i0 (by omega)
    split
    · rw [ax_or_nn hs.1 (by omega) bs.1 (by omega)]
      have := Nat.or_lt_two_pow (n := (am_rd M 448 0).toNat) (show s.toNat < 2 ^ (am_rd M 448 0).toNat by omega) (show (am_rd M 448 (32 + i)).toNat < 2 ^ (am_rd M 448 0).toNat by omega)
      omega
    · rw [ax_or0 hs.1 (by omega)]; exact hs
  intro d
  unfold fwT
  rw [aq_201]
  rw [← bk_8 bT.1 bT.2 (RR_L a) fr.1 fr.2]
  refine ax_loop (X := fun k s => am_Ex d 201 5 [(2, 447), (0, x), (0, s), (0, k)] [] M) (E := fun s => some (ax_fo (fun _ s => rd1 (fun t => am_rd M 448 (18 + t)) (am_rd M 448 0) s) ((8 : Int) - 0).toNat 0 s, M)) (n := am_rd M 448 2) (fun k _ => 0 ≤ k) ?_ ?_ _ _ _ (by omega) (by omega)
  · intro k s k0 k1
    constructor
    · show am_Ex d 201 5 _ _ _ = _
      rw [aq_201_5]
      simp (disch := first | assumption | omega) only [ax_gt, ax_gi, Option.bind_some, ax_gbl, ax_gb2, ax_gd, Int.reduceEq, Int.reduceNe, Int.reduceLT, Int.reduceLE, Int.reduceAdd, Int.reduceSub, Int.reduceMul, Int.reduceNeg, reduceIte, ite_true, ite_false, true_and, and_true, false_and, and_false, true_or, or_true, false_or, or_false, not_true_eq_false, not_false_eq_true, and_self, or_self, eq_self, ite_self, decide_true, decide_false, Bool.true_and, Bool.and_true, Bool.and_self, Bool.false_and, Int.add_zero, Int.zero_add, ax_rw, if_pos, if_neg, ax_w32, ax_let, ax_o_447, ax_a_448, kr_447_0, m_65, ax_b0, ite_not]
      split <;> rfl
    · omega
  · intro s k0
    show am_Ex d 201 5 _ _ _ = _
    have e159 := fun d => m_159 (d := d) (x := s) hK mB
    rw [aq_201_5]
    simp (disch := first | assumption | omega) only [ax_gt, ax_gi, Option.bind_some, ax_gbl, ax_gb2, ax_gd, Int.reduceEq, Int.reduceNe, Int.reduceLT, Int.reduceLE, Int.reduceAdd, Int.reduceSub, Int.reduceMul, Int.reduceNeg, reduceIte, ite_true, ite_false, true_and, and_true, false_and, and_false, true_or, or_true, false_or, or_false, not_true_eq_false, not_false_eq_true, and_self, or_self, eq_self, ite_self, decide_true, decide_false, Bool.true_and, Bool.and_true, Bool.and_self, Bool.false_and, Int.add_zero, Int.zero_add, ax_rw, if_pos, if_neg, ax_o_447, ax_a_448, kr_447_0, Int.lt_irrefl, e159]
theorem c_130 (a : RR M) {x : Int} : am_Call d 130 [(2, 442), (0, x)] M = some (ax_fo (fwU (fun k => am_and x (am_xor (fwT M k) (-1)) = 0) ax_cn) (((2 ^ (am_rd M 448 2).toNat : Nat) : Int) - 0).toNat 0 (-1), M) := by
  have hK := a.1
  have bS := a.2.1.2.1.1.2.2.1
  have g3 := a.2.1.1.1.2.2.1
  have pw := ax_pw bS.1 (by omega : am_rd M 448 2 ≤ 8)
  have sh := ax_shl1 bS.1 (by omega : am_rd M 448 2 < 31)
  have c20 := fun k => c_20' (d := d) (x := k) a
  rw [aq_130]
  generalize hN : ((2 ^ (am_rd M 448 2).toNat : Nat) : Int) = N at *
  refine ax_loop (X := fun k s => am_Ex d 130 5 [(2, 442), (0, x), (0, s), (0, k), am_N] [] M) (E := fun s => some (s, M)) (n := N) (fun k s => 0 ≤ k ∧ (s = -1 ∨ (0 ≤ s ∧ s < k))) ?_ ?_ _ _ _ (by omega) (by omega)
  · intro k s ⟨k0, s0⟩ k1
    have e39 : ∀ s, am_Ex d 130 39 [(2, 442), (0, x), (0, s), (0, k), am_N] [] M = am_Ex d 130 5 [(2, 442), (0, x), (0, s), (0, k + 1), am_N] [] M := fun s => by
      rw [aq_130_39, ax_w32 (by omega) (by omega), ax_let]
    have e21 : am_Ex d 130 21 [(2, 442), (0, x), (0, s), (0, k), am_N] [] M = am_Ex d 130 5 [(2, 442), (0, x), (0, if am_and x (am_xor (fwT M k) (-1)) = 0 then k else s), (0, k + 1), am_N] [] M := by
      rw [aq_130_21, if_neg (by decide), kr_442_0 hK, show am_ob 442 7 = true from rfl, show am_ob 2 2 = true from rfl, ax_gt, ax_gt, c20, Option.bind_some]
      dsimp only []
      rw [e39, e39]
      by_cases f : am_and x (am_xor (fwT M k) (-1)) = 0
      · rw [if_pos f]; exact if_pos f
      · rw [if_neg f]; exact if_neg f
    constructor
    · show am_Ex d 130 5 _ _ _ = am_Ex d 130 5 _ _ _
      rw [aq_130_5, kr_442_0 hK, show am_ob 442 7 = true from rfl, show am_ob 2 2 = true from rfl, ax_gt, ax_gt, g3, sh, if_pos k1]
      unfold fwU
      by_cases h : s = -1
      · rw [if_pos h, if_pos h, e21]
      · rw [if_neg h, if_neg h, c_99 k0 (by omega), Option.bind_some]
        dsimp only []
        rw [c_99 (by omega) (by omega), Option.bind_some]
        dsimp only []
        by_cases h2 : ax_cn k < ax_cn s
        · rw [if_pos h2, if_pos h2, e21]
        · rw [if_neg h2, if_neg h2, if_pos rfl, e39]
    · refine ⟨by omega, ?_⟩
      unfold fwU
      (repeat' split) <;> omega
  · intro s _
    show am_Ex d 130 5 _ _ _ = _
    rw [aq_130_5, kr_442_0 hK, show am_ob 442 7 = true from rfl, show am_ob 2 2 = true from rfl, ax_gt, ax_gt, g3, sh, if_neg (by omega)]
end
