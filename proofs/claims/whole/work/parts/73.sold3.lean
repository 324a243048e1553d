/-! sold -/
section
variable {M : am_M} {d : Nat}
theorem op_sold (a : RR M) {x : Int} : OP d M 280 287 [(0, x)] := by
  have hK := a.1
  have g := a.2.1.1
  have bb := a.2.1.2.1
  have g8 := g.2.1
  have t8 := bb.1.1.2
  simp only [Int.reduceEq, Int.reduceNe, Int.reduceLT, Int.reduceLE, Int.reduceAdd, Int.reduceSub, Int.reduceMul, Int.reduceNeg, reduceIte, ite_true, ite_false, true_and, and_true, false_and, and_false, true_or, or_true, false_or, or_false, not_true_eq_false, not_false_eq_true, and_self, or_self, eq_self, ite_self, decide_true, decide_false, Bool.true_and, Bool.and_true, Bool.and_self, Bool.false_and, Int.add_zero, Int.zero_add] at g8
  obtain ⟨P, W, cd, E, E2, S⟩ := RR_env a
  by_cases h1 : 1 ≤ x ∧ x ≤ 6
  · obtain ⟨r1, M1, e1, v1, f1⟩ := c_241 (d := d) hK (RR_C a) E S (RR_H a) g.1.2.1 bb.1.2.1.1 bb.1.2.1.2
    have K1 := ax_Kp e1 hK rfl
    have j1 : ∀ c i, ¬ jk c i → am_rd M1 c i = am_rd M c i := fun c i h => by unfold jk at h; exact f1 c i (by omega) (by omega) (by omega)
    have a1 := RR_same a K1 j1
    have e2 := c_260 (d := d) (x := x) K1 (RR_gB a1) ((f1 _ _ (by omega) (by omega) (by omega)).trans g.1.2.1) ((f1 _ _ (by omega) (by omega) (by omega)).trans g.1.1) bb.1.2.1.1 bb.1.2.1.2 v1 (fun j j0 j2 => (f1 3 j (by omega) (by omega) (by omega)).trans (g8 j j0 (by omega)))
    refine OP_ro (r := ax_fo (sdF (hHad (am_rd M 448 0) P W cd (fl M 448 60)) (fun t => am_rd M 448 (10 + t)) (am_rd M 448 1) (am_rd M 448 0) x) (((2 ^ (am_rd M 448 1).toNat : Nat) : Int) - 0).toNat 0 0) a ?_ rfl ?_ rfl
    · rw [aq_280, if_neg (by omega), if_pos h1.2, kr_1_13 hK, show am_ob 1 10 = true from rfl, show am_ob 442 7 = true from rfl, ax_gt, ax_gt, aq_260, show am_ob 442 7 = true from rfl, ax_gt, e1, Option.bind_some]
      rw [e2, Option.bind_some]
      exact ax_ok_some ⟨rfl, j1⟩
    · intro N a' f
      have F : FH N 448 60 (fl M 448 60) := fun j _ _ => f _ _ (by unfold jk; omega)
      have E3 : ME N (am_rd M 448 0) (am_rd M 448 1) (am_rd M 448 7) P W cd := ME_same E2 fun c i hc => f c i (by unfold jk; omega)
      have q8 : ∀ i, am_rd N 448 i = am_rd M 448 i := fun i => f _ _ (by unfold jk; omega)
      obtain ⟨r2, N1, e3, v3, f3⟩ := m_271 (d := d) a'.1 F E3 S (RR_H a) (q8 1) bb.1.2.1.1 bb.1.2.1.2 (kr_447_53 a'.1) (fun _ => ax_a_483)
      have K3 := ax_Kp e3 a'.1 rfl
      have p8 : ∀ i, am_rd N1 448 i = am_rd M 448 i := fun i => (f3 _ _ (by omega) (by omega) (by omega) (by omega) (by omega)).trans (q8 i)
      have e4 := m_287s (d := d) (x := x) K3 (p8 1) (p8 0) bb.1.2.1.1 bb.1.2.1.2 bb.1.1.1 bb.1.1.2 (fun j j0 j2 => by rw [p8]; exact bb.2.1 j j0 j2) v3 (fun j j0 j2 => p8 (10 + j))
      rw [aq_287, m_64, Option.bind_some]
      dsimp only []
      rw [if_neg (by rw [ax_b0]; exact fun q => q h1), show am_ob 447 11 = true from rfl, ax_gt, e3, Option.bind_some]
      dsimp only []
      rw [e4]
      exact ax_ok_some ⟨rfl, fun c i h => by unfold jk at h; exact f3 c i (by omega) (by omega) (by omega) (by omega) (by omega)⟩
  · refine ⟨-1, M, M, ?_, ?_, a⟩
    · rw [aq_280, aq_280_7]
      (repeat' split) <;> first | rfl | (exfalso; omega)
    · rw [aq_287, m_64, Option.bind_some]
      dsimp only []
      rw [if_pos (by rw [ax_b0]; exact h1)]
end
