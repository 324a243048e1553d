/-! sets -/
section
variable {M : am_M} {d : Nat}
theorem op_sets (a : RR M) {x i : Int} : OP d M 215 230 [(0, x), (0, i)] := by
  have hK := a.1
  have gB := RR_gB a
  have g := a.2.1.1
  have bb := a.2.1.2.1
  have bT := bb.1.1
  have bn := bb.1.2.2.2.2.2.2.1
  have g9 := g.2.2.1
  simp only [Int.reduceEq, Int.reduceNe, Int.reduceLT, Int.reduceLE, Int.reduceAdd, Int.reduceSub, Int.reduceMul, Int.reduceNeg, reduceIte, ite_true, ite_false, true_and, and_true, false_and, and_false, true_or, or_true, false_or, or_false, not_true_eq_false, not_false_eq_true, and_self, or_self, eq_self, ite_self, decide_true, decide_false, Bool.true_and, Bool.and_true, Bool.and_self, Bool.false_and, Int.add_zero, Int.zero_add] at g9
  have hL : ∀ j, 0 ≤ j → j < am_rd M 448 0 → am_rd M 4 j = am_rd M 448 (18 + j) := fun j j0 j1 => g9 j j0 (by omega)
  have pw := ax_pw bT.1 bT.2
  have sh := ax_shl1 bT.1 (by omega : am_rd M 448 0 < 31)
  have hW : ∀ j, 0 ≤ j → j < am_rd M 448 6 → 0 ≤ am_rd M 448 (38 + 2 * j) ∧ am_rd M 448 (38 + 2 * j) < 8 := fun j j0 j1 => by
    have := (bb.2.2.2.2.2.2 j j0 (by omega)).1
    omega
  have e113 : ∀ x, am_Call d 113 [(2, 2), (0, x)] M = some (ax_fo (doF (fun j => am_rd M 448 (38 + 2 * j)) (fun j => am_rd M 448 (39 + 2 * j)) x) (am_rd M 448 6 - 0).toNat 0 0, M) := fun x => by
    rw [c_113 hK gB, g.1.2.2.2.2.2.1]
    congr 2
    refine ax_fo_congr _ _ _ fun j s j0 j1 => ?_
    have h1 := g.2.2.2.2.2.2.1 j j0 (by omega)
    have h2 := g.2.2.2.2.2.1 j j0 (by omega)
    simp only [Int.reduceEq, Int.reduceNe, Int.reduceLT, Int.reduceLE, Int.reduceAdd, Int.reduceSub, Int.reduceMul, Int.reduceNeg, reduceIte, ite_true, ite_false, true_and, and_true, false_and, and_false, true_or, or_true, false_or, or_false, not_true_eq_false, not_false_eq_true, and_self, or_self, eq_self, ite_self, decide_true, decide_false, Bool.true_and, Bool.and_true, Bool.and_self, Bool.false_and, Int.add_zero, Int.zero_add] at h2
    unfold doF
    rw [h1, h2]
  have e11 : am_Call d 11 [(2, 2)] M = some (((2 ^ (am_rd M 448 0).toNat : Nat) : Int) - 1, M) := by
    rw [c_11 hK, g.1.1, pw.1]
  generalize hN : ((2 ^ (am_rd M 448 0).toNat : Nat) : Int) = N at *
  have e230 : am_Call d 230 [(2, 447), (0, x), (0, i)] M = some (sq (msB (fun j => am_rd M 448 (18 + j)) (fun j => am_rd M 448 (38 + 2 * j)) (fun j => am_rd M 448 (39 + 2 * j)) (am_rd M 448 0) (am_rd M 448 6) x) i (N - 0).toNat 0 0, M) := by
    rw [aq_230]
    by_cases h : i < -1
    · rw [if_pos h, sq_neg h _ _ _ (by omega)]
    · rw [if_neg h]
      exact m_230s hK rfl rfl bT.1 bT.2 bn.1 bn.2 sh (by omega) pw.2.1 (fun _ _ _ => rfl) (fun _ _ _ => rfl) (fun _ _ _ => rfl)
  have fin : ∀ w, (∀ z, 0 ≤ z → z < N → (am_and z w = 0 ↔ ∀ j, 0 ≤ j → j < am_rd M 448 6 → ¬ am_rd M 448 (39 + 2 * j) = 1 → (am_and (am_shr z (am_rd M 448 (38 + 2 * j))) 1 = 1 → ¬ x = 0))) → sq (csB (fun j => am_rd M 448 (18 + j)) (am_rd M 448 0) (ax_fo (doF (fun j => am_rd M 448 (38 + 2 * j)) (fun j => am_rd M 448 (39 + 2 * j)) 1) (am_rd M 448 6 - 0).toNat 0 0) w) i (N - 0).toNat 0 0 = sq (msB (fun j => am_rd M 448 (18 + j)) (fun j => am_rd M 448 (38 + 2 * j)) (fun j => am_rd M 448 (39 + 2 * j)) (am_rd M 448 0) (am_rd M 448 6) x) i (N - 0).toNat 0 0 := by
    intro w hw
    refine sq_congr _ _ _ fun z z0 z1 => ?_
    have d1 := (do_1 (R := fun j => am_rd M 448 (39 + 2 * j)) bn.1 z0 (by omega) hW).2
    have d0 := hw z z0 (by omega)
    unfold csB msB
    rw [Bool.and_comm]
    congr 1
    rw [Bool.eq_iff_iff, Bool.and_eq_true_iff, decide_eq_true_iff, decide_eq_true_iff, d1, d0, ax_al_iff]
    constructor
    · intro ⟨p, q⟩ j j0 j1
      unfold dnB
      by_cases h : am_rd M 448 (39 + 2 * j) = 1
      · rw [if_pos h]; exact decide_eq_true (p j j0 (by omega) h)
      · rw [if_neg h]
        have := q j j0 (by omega) h
        by_cases hb : am_and (am_shr z (am_rd M 448 (38 + 2 * j))) 1 = 1
        · rw [decide_eq_true hb, decide_eq_false (this hb)]; rfl
        · rw [decide_eq_false hb]; rfl
    · intro p
      refine ⟨fun j j0 j1 h => ?_, fun j j0 j1 h hb => ?_⟩
      · have := p j j0 (by omega)
        unfold dnB at this
        rw [if_pos h] at this
        exact of_decide_eq_true this
      · have := p j j0 (by omega)
        unfold dnB at this
        rw [if_neg h, decide_eq_true hb] at this
        intro hx
        rw [decide_eq_true hx] at this
        cases this
  refine ⟨_, M, M, ?_, e230, a⟩
  rw [aq_215, kr_1_13 hK, show am_ob 1 10 = true from rfl, show am_ob 442 7 = true from rfl, ax_gt, ax_gt, aq_179, kr_442_0 hK, show am_ob 442 7 = true from rfl, show am_ob 2 2 = true from rfl, ax_gt, ax_gt, e113, Option.bind_some]
  dsimp only []
  by_cases hx : x = 0
  · rw [if_pos hx, kr_442_0 hK, show am_ob 2 2 = true from rfl, ax_gt, e113, Option.bind_some]
    dsimp only []
    rw [kr_442_0 hK, show am_ob 2 2 = true from rfl, ax_gt, e11, Option.bind_some]
    dsimp only []
    rw [c_179s hK gB g.1.1 hL (by omega) pw.2.1, Option.bind_some]
    dsimp only []
    rw [fin _ fun z z0 z1 => ?_]
    rw [do_0 bn.1 z0 (by omega) hW]
    exact ⟨fun p j j0 j1 h hb => absurd hb (p j j0 j1 h), fun p j j0 j1 h hb => p j j0 j1 h hb hx⟩
  · rw [if_neg hx, kr_442_0 hK, show am_ob 2 2 = true from rfl, ax_gt, e11, Option.bind_some]
    dsimp only []
    rw [c_179s hK gB g.1.1 hL (by omega) pw.2.1, Option.bind_some]
    dsimp only []
    rw [fin _ fun z z0 z1 => ?_]
    exact ⟨fun _ j j0 j1 h hb => hx, fun _ => (and_z0 z0 (by omega)).1⟩
end
