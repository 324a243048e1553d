/-! trial -/
section
variable {M : am_M} {d : Nat}
theorem op_trial (a : RR M) {m x i : Int} (hx : -2147483648 ≤ x ∧ x < 2147483648) : OP d M 245 202 [(0, m), (0, x), (0, i)] := by
  have hK := a.1
  have g := a.2.1.1
  have bb := a.2.1.2.1
  have T8 := bb.1.1
  have n6 := bb.1.2.1
  have gB := RR_gB a
  have mB := RR_mB a
  have g8 := g.2.1
  simp only [Int.reduceEq, Int.reduceNe, Int.reduceLT, Int.reduceLE, Int.reduceAdd, Int.reduceSub, Int.reduceMul, Int.reduceNeg, reduceIte, ite_true, ite_false, true_and, and_true, false_and, and_false, true_or, or_true, false_or, or_false, not_true_eq_false, not_false_eq_true, and_self, or_self, eq_self, ite_self, decide_true, decide_false, Bool.true_and, Bool.and_true, Bool.and_self, Bool.false_and, Int.add_zero, Int.zero_add] at g8
  have p8 := pw8 T8.1 T8.2
  have B := RR_H a
  have e108 := fun d => c_108 (d := d) (x := x) hK gB
  rw [ax_w32 hx.1 hx.2, g.1.1] at e108
  have c8 := fun d => c_8 (d := d) (t := m) hK gB
  rw [g.1.2.1] at c8
  by_cases hm : 0 ≤ m ∧ m < am_rd M 448 1
  · by_cases h1 : 0 ≤ x ∧ x < ((2 ^ (am_rd M 448 0).toNat : Nat) : Int)
    · have x1 : x < 256 := by omega
      have cn := ax_cnr x
      by_cases h2 : (1 ≤ ax_cn x ∧ ax_cn x ≤ 5) ∧ (-2 ≤ i ∧ i < ax_cn x)
      · obtain ⟨⟨c1, c5⟩, i0, i1⟩ := h2
        have fr := fct_r (n := (ax_cn x).toNat) (by omega)
        have hW : ∀ t, 0 ≤ t → t < 8 → 0 ≤ am_rd M 448 (10 + t) ∧ am_rd M 448 (10 + t) ≤ 99 := fun t t0 t1 => bb.2.1 t t0 t1
        have hH : ∀ j, 0 ≤ j → j < 48 → 0 ≤ fl M 448 60 j ∧ fl M 448 60 j ≤ 99 := fun j j0 j1 => by
          have := (B.1 j j0 j1).1
          omega
        obtain ⟨r1, M1, e1, q1, s1, o1, f1⟩ := c_36 (d := d) hK h1.1 x1 c1 (by omega)
        have K1 := ax_Kp e1 hK rfl
        have ov0 : OV M1 (ov x (ax_cn x) 0) (ax_cn x) := fun j j0 j1 => by
          rw [o1 j j0 j1]
          unfold ov
          rw [show (0 : Int).toNat = 0 from rfl, ix_0 (by omega) j0 (by omega)]
        have k2 := c_210s (d := d) (M0 := M) (T := am_rd M 448 0) (W := fun t => am_rd M 448 (10 + t)) (H := fl M 448 60) (z := x) (n := ax_cn x) (m := m) (i := i) gB g.1.1 (RR_C a) T8.1 T8.2 h1.1 h1.2 rfl c1 c5 hm.1 (by omega) hW hH (fun t t0 t1 => g8 t t0 t1) i0 i1 (fct (ax_cn x).toNat) 0 (-1, 0) M1 (by omega) (by omega) (fun h => by omega) (by show (-1 : Int) ≤ 5000000000000; decide) (fun h => absurd h (by decide)) K1 s1 (fun x y h1 h2 h3 => f1 x y h1 h3) (fun _ => ov0)
        rw [if_neg (by omega)] at k2
        obtain ⟨r2, M2, e2, q2, f2⟩ := k2
        have e2' : am_Ex d 210 9 [(2, 444), (0, m), am_N, (0, i), (1, -1), am_N, (0, 1), (0, 0), am_N, am_N, am_N] [] M1 = some (r2, M2) := e2
        have jj : ∀ c i, ¬ jk c i → am_rd M2 c i = am_rd M c i := fun c i h => by unfold jk at h; exact f2 c i (by omega) (by omega) (by omega)
        refine OP_ro (r := trR x (ax_cn x) i (ax_fo (trF (coF (fun t => am_rd M 448 (10 + t)) (fl M 448 60) x (ax_cn x) m)) (fct (ax_cn x).toNat) 0 (-1, 0))) a ?_ rfl ?_ rfl
        · rw [aq_245, c_99 h1.1 x1, Option.bind_some]
          dsimp only []
          rw [kr_1_0 hK, show am_ob 1 10 = true from rfl, show am_ob 2 2 = true from rfl, ax_gt, ax_gt, c8, Option.bind_some]
          dsimp only []
          rw [if_neg (by rw [ax_b0]; exact fun q => q hm), kr_1_0 hK, show am_ob 2 2 = true from rfl, ax_gt, e108, Option.bind_some]
          dsimp only []
          rw [if_neg (by rw [ax_b0]; exact fun q => q h1), if_neg (by omega), if_pos c5, if_neg (by omega), if_pos i1, kr_1_14 hK, show am_ob 444 5 = true from rfl, ax_gt, aq_210, show am_ob 444 5 = true from rfl, ax_gt, e1, Option.bind_some]
          dsimp only []
          rw [q1, e2', Option.bind_some]
          exact ax_ok_some ⟨q2, jj⟩
        · intro N a' f
          have q8 : ∀ i, am_rd N 448 i = am_rd M 448 i := fun i => f _ _ (by unfold jk; omega)
          obtain ⟨r3, M3, e3, q3, o3, f3⟩ := m_162 (d := d) a'.1 (q8 0) T8.1 T8.2 h1.1 h1.2
          have K3 := ax_Kp e3 a'.1 rfl
          obtain ⟨r4, M4, e4, q4, f4⟩ := m_202s (d := d) (M0 := N) (T := am_rd M 448 0) (W := fun t => am_rd M 448 (10 + t)) (H := fl M 448 60) (z := x) (n := ax_cn x) (m := m) (i := i) T8.1 T8.2 h1.1 h1.2 rfl c1 c5 hm.1 (by omega) hW hH (fun t _ _ => q8 _) (fun j _ _ => q8 _) i0 i1 (fct (ax_cn x).toNat) 0 (-1, 0) M3 (by omega) (by omega) (fun h => by omega) (by show (-1 : Int) ≤ 5000000000000; decide) (fun h => absurd h (by decide)) K3 (fun x y hx => f3 x y (by omega)) o3
          have e4' : am_Ex d 202 34 [(2, 447), (0, m), am_N, (0, i), (0, ax_cn x), (1, -1), am_N, (0, 0), am_N, am_N] [] M3 = some (r4, M4) := e4
          have e145 := m_145 (d := d) (x := x) a'.1 (RR_mB a')
          rw [q8 0] at e145
          have e144 := m_144 (d := d) (t := m) a'.1 (RR_mB a')
          rw [q8 1] at e144
          rw [aq_202, show am_ob 447 11 = true from rfl, ax_gt, e144, Option.bind_some]
          dsimp only []
          rw [if_neg (by rw [ax_b0]; exact fun q => q hm), e145, Option.bind_some]
          dsimp only []
          rw [if_neg (by rw [ax_b0]; exact fun q => q h1), m_66 h1.1 x1, Option.bind_some]
          dsimp only []
          rw [m_64, Option.bind_some]
          dsimp only []
          rw [if_neg (by rw [ax_b0]; exact fun q => q ⟨c1, c5⟩), m_66 h1.1 x1, Option.bind_some]
          dsimp only []
          rw [ax_w32 (by omega) (by omega), m_64, Option.bind_some]
          dsimp only []
          rw [if_neg (by rw [ax_b0]; exact fun q => q ⟨i0, by omega⟩), e3, Option.bind_some]
          dsimp only []
          rw [q3, e4']
          exact ax_ok_some ⟨q4, fun c i h => by unfold jk at h; exact f4 c i (by omega)⟩
      · refine ⟨-100, M, M, ?_, ?_, a⟩
        · rw [aq_245, c_99 h1.1 x1, Option.bind_some]
          dsimp only []
          rw [kr_1_0 hK, show am_ob 1 10 = true from rfl, show am_ob 2 2 = true from rfl, ax_gt, ax_gt, c8, Option.bind_some]
          dsimp only []
          rw [if_neg (by rw [ax_b0]; exact fun q => q hm), kr_1_0 hK, show am_ob 2 2 = true from rfl, ax_gt, e108, Option.bind_some]
          dsimp only []
          rw [if_neg (by rw [ax_b0]; exact fun q => q h1)]
          by_cases k1 : ax_cn x < 1
          · rw [if_pos k1]
          · rw [if_neg k1]
            by_cases k2 : ax_cn x ≤ 5
            · rw [if_pos k2]
              by_cases k3 : i < -2
              · rw [if_pos k3]
              · rw [if_neg k3, if_neg (by omega)]
            · rw [if_neg k2]
        · rw [aq_202, show am_ob 447 11 = true from rfl, ax_gt, m_144 hK mB, Option.bind_some]
          dsimp only []
          rw [if_neg (by rw [ax_b0]; exact fun q => q hm), m_145 hK mB, Option.bind_some]
          dsimp only []
          rw [if_neg (by rw [ax_b0]; exact fun q => q h1), m_66 h1.1 x1, Option.bind_some]
          dsimp only []
          rw [m_64, Option.bind_some]
          dsimp only []
          by_cases k1 : 1 ≤ ax_cn x ∧ ax_cn x ≤ 5
          · rw [if_neg (by rw [ax_b0]; exact fun q => q k1), m_66 h1.1 x1, Option.bind_some]
            dsimp only []
            rw [ax_w32 (by omega) (by omega), m_64, Option.bind_some]
            dsimp only []
            rw [if_pos (by rw [ax_b0]; omega)]
          · rw [if_pos (by rw [ax_b0]; exact k1)]
    · refine ⟨-100, M, M, ?_, ?_, a⟩
      · obtain ⟨r, hr⟩ := c_99x (d := d) (M := M) (x := x)
        rw [aq_245, hr, Option.bind_some]
        dsimp only []
        rw [kr_1_0 hK, show am_ob 1 10 = true from rfl, show am_ob 2 2 = true from rfl, ax_gt, ax_gt, c8, Option.bind_some]
        dsimp only []
        rw [if_neg (by rw [ax_b0]; exact fun q => q hm), kr_1_0 hK, show am_ob 2 2 = true from rfl, ax_gt, e108, Option.bind_some]
        dsimp only []
        rw [if_pos (by rw [ax_b0]; exact h1)]
      · rw [aq_202, show am_ob 447 11 = true from rfl, ax_gt, m_144 hK mB, Option.bind_some]
        dsimp only []
        rw [if_neg (by rw [ax_b0]; exact fun q => q hm), m_145 hK mB, Option.bind_some]
        dsimp only []
        rw [if_pos (by rw [ax_b0]; exact h1)]
  · refine ⟨-100, M, M, ?_, ?_, a⟩
    · obtain ⟨r, hr⟩ := c_99x (d := d) (M := M) (x := x)
      rw [aq_245, hr, Option.bind_some]
      dsimp only []
      rw [kr_1_0 hK, show am_ob 1 10 = true from rfl, show am_ob 2 2 = true from rfl, ax_gt, ax_gt, c8, Option.bind_some]
      dsimp only []
      rw [if_pos (by rw [ax_b0]; exact hm)]
    · rw [aq_202, show am_ob 447 11 = true from rfl, ax_gt, m_144 hK mB, Option.bind_some]
      dsimp only []
      rw [if_pos (by rw [ax_b0]; exact hm)]
end
