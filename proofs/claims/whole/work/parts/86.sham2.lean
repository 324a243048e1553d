/-! shammed -/
section
variable {M : am_M} {d : Nat}
theorem op_shammed (a : RR M) {m p q l : Int} : OP d M 263 269 [(0, m), (0, p), (0, q), (0, l)] := by
  have hK := a.1
  have g := a.2.1.1
  have bb := a.2.1.2.1
  have bn := bb.1.2.2.2.2.2.2.1
  have n6 := bb.1.2.1.2
  have c8 := c_8 (d := d) (t := m) hK (RR_gB a)
  rw [g.1.2.1] at c8
  have m144 := m_144 (d := d) (t := m) hK (RR_mB a)
  obtain ⟨P, W, cd, E, E2, S⟩ := RR_env a
  by_cases h2 : 0 ≤ m ∧ m < am_rd M 448 1
  · by_cases hp : 0 ≤ p ∧ p ≤ 10
    · by_cases hq : 0 ≤ q ∧ q ≤ 10
      · obtain ⟨r1, M1, e1, q1, f1⟩ := c_209 (d := d) hK (Or.inl rfl) (RR_C a) E S (RR_H a) h2.1 h2.2
        have K1 := ax_Kp e1 hK rfl
        have I0 : shI (am_rd M 448 6) 0 (p, 10 - p) := by
          unfold shI
          have : ((10 ^ ((0 : Int).toNat + 1) : Nat) : Int) = 10 := by decide
          rw [this]
          dsimp only
          omega
        have e2 := c_240s (d := d) (M := M1) (h := r1) (q := q) (l := l) (W := fun j => am_rd M 448 (38 + 2 * j)) (R := fun j => am_rd M 448 (39 + 2 * j)) K1 ((f1 2 8 (by omega) (by omega)).trans g.1.2.2.2.2.2.1) bn.2 (fun j j0 j1 => by
          have h := g.2.2.2.2.2.1 j j0 (by omega)
          simp only [Int.reduceEq, Int.reduceNe, Int.reduceLT, Int.reduceLE, Int.reduceAdd, Int.reduceSub, Int.reduceMul, Int.reduceNeg, reduceIte, ite_true, ite_false, true_and, and_true, false_and, and_false, true_or, or_true, false_or, or_false, not_true_eq_false, not_false_eq_true, and_self, or_self, eq_self, ite_self, decide_true, decide_false, Bool.true_and, Bool.and_true, Bool.and_self, Bool.false_and, Int.add_zero, Int.zero_add] at h
          exact (f1 7 j (by omega) (by omega)).trans h) (fun j j0 j1 => by
          have h := g.2.2.2.2.2.2.1 j j0 (by omega)
          rw [f1 2 9 (by omega) (by omega), h]) hq.1 hq.2 (am_rd M 448 6 - 0).toNat 0 (p, 10 - p) (by omega) I0
        refine OP_ro (r := shR (ax_fo (shG (fun j => am_rd M 448 (38 + 2 * j)) (fun j => am_rd M 448 (39 + 2 * j)) (hHad (am_rd M 448 0) P W cd (fl M 448 60) m) q) (am_rd M 448 6 - 0).toNat 0 (p, 10 - p)) l) a ?_ rfl ?_ rfl
        · rw [aq_263, kr_1_0 hK, show am_ob 1 10 = true from rfl, show am_ob 2 2 = true from rfl, ax_gt, ax_gt, c8, Option.bind_some]
          dsimp only []
          rw [if_neg (by rw [ax_b0]; exact fun q => q h2), if_neg (by omega), if_pos hp.2, if_neg (by omega), if_pos hq.2, kr_1_13 hK, show am_ob 442 7 = true from rfl, ax_gt, aq_240, kr_442_2 hK, kr_442_1 hK, show am_ob 442 7 = true from rfl, show am_ob 39 4 = true from rfl, ax_gt, ax_gt, e1, Option.bind_some]
          dsimp only []
          rw [ax_w32 (x := 10 - p) (by omega) (by omega), ax_let, e2, Option.bind_some]
          rw [q1]
          exact ax_ok_some ⟨rfl, JF_jk f1⟩
        · intro N a' f
          have F : FH N 448 60 (fl M 448 60) := fun j _ _ => f _ _ (by unfold jk; omega)
          have E3 : ME N (am_rd M 448 0) (am_rd M 448 1) (am_rd M 448 7) P W cd := ME_same E2 fun c i hc => f c i (by unfold jk; omega)
          have m144 := m_144 (d := d) (t := m) a'.1 (RR_mB a')
          rw [f 448 1 (by unfold jk; omega)] at m144
          obtain ⟨x1, N1, y1, D1, F1⟩ := m_88 (d := d) a'.1 F
          have L1 := ax_Kp y1 a'.1 rfl
          obtain ⟨x2, N2, y2, z2, F2⟩ := m_251 (d := d) L1 D1 (NF_ME E3 F1) S (RR_H a) h2.1 (by omega)
          have L2 := ax_Kp y2 L1 rfl
          have FF := NF_trans F1 (JF_NF F2)
          have q8 : ∀ i, am_rd N2 448 i = am_rd M 448 i := fun i => (FF _ _ (by omega) (by omega) (by omega) (by omega)).trans (f _ _ (by unfold jk; omega))
          have e3 := m_269s (d := d) (M := N2) (h := x2) (q := q) (l := l) (W := fun j => am_rd M 448 (38 + 2 * j)) (R := fun j => am_rd M 448 (39 + 2 * j)) L2 (q8 6) bn.2 (fun j _ _ => q8 _) (fun j _ _ => q8 _) hq.1 hq.2 (am_rd M 448 6 - 0).toNat 0 (p, 10 - p) (by omega) I0
          rw [aq_269, show am_ob 447 11 = true from rfl, ax_gt, m144, Option.bind_some]
          dsimp only []
          rw [if_neg (by rw [ax_b0]; exact fun q => q h2), m_64, Option.bind_some]
          dsimp only []
          rw [if_neg (by rw [ax_b0]; exact fun q => q hp), m_64, Option.bind_some]
          dsimp only []
          rw [if_neg (by rw [ax_b0]; exact fun w => w hq), y1, Option.bind_some]
          dsimp only []
          rw [y2, Option.bind_some]
          dsimp only []
          rw [ax_w64 (x := 10 - p) (by omega) (by omega), ax_let, e3, z2]
          exact ax_ok_some ⟨rfl, NF_jk FF⟩
      · refine ⟨-1, M, M, ?_, ?_, a⟩
        · rw [aq_263, kr_1_0 hK, show am_ob 1 10 = true from rfl, show am_ob 2 2 = true from rfl, ax_gt, ax_gt, c8, Option.bind_some]
          dsimp only []
          rw [if_neg (by rw [ax_b0]; exact fun q => q h2), if_neg (by omega), if_pos hp.2]
          by_cases h : q < 0
          · rw [if_pos h]
          · rw [if_neg h, if_neg (by omega)]
        · rw [aq_269, show am_ob 447 11 = true from rfl, ax_gt, m144, Option.bind_some]
          dsimp only []
          rw [if_neg (by rw [ax_b0]; exact fun q => q h2), m_64, Option.bind_some]
          dsimp only []
          rw [if_neg (by rw [ax_b0]; exact fun q => q hp), m_64, Option.bind_some]
          dsimp only []
          rw [if_pos (by rw [ax_b0]; exact hq)]
    · refine ⟨-1, M, M, ?_, ?_, a⟩
      · rw [aq_263, kr_1_0 hK, show am_ob 1 10 = true from rfl, show am_ob 2 2 = true from rfl, ax_gt, ax_gt, c8, Option.bind_some]
        dsimp only []
        rw [if_neg (by rw [ax_b0]; exact fun q => q h2)]
        by_cases h : p < 0
        · rw [if_pos h]
        · rw [if_neg h, if_neg (by omega)]
      · rw [aq_269, show am_ob 447 11 = true from rfl, ax_gt, m144, Option.bind_some]
        dsimp only []
        rw [if_neg (by rw [ax_b0]; exact fun q => q h2), m_64, Option.bind_some]
        dsimp only []
        rw [if_pos (by rw [ax_b0]; exact hp)]
  · refine ⟨-1, M, M, ?_, ?_, a⟩
    · rw [aq_263, kr_1_0 hK, show am_ob 1 10 = true from rfl, show am_ob 2 2 = true from rfl, ax_gt, ax_gt, c8, Option.bind_some]
      dsimp only []
      rw [if_pos (by rw [ax_b0]; exact h2)]
    · rw [aq_269, show am_ob 447 11 = true from rfl, ax_gt, m144, Option.bind_some]
      dsimp only []
      rw [if_pos (by rw [ax_b0]; exact h2)]
end
