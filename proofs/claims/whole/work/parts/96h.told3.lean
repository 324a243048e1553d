/-! told -/
section
variable {M : am_M} {d : Nat}
theorem op_told (a : RR M) {x i : Int} (hx : -2147483648 ≤ x ∧ x < 2147483648) : OP d M 216 203 [(0, x), (0, i)] := by
  have hK := a.1
  have g := a.2.1.1
  have bb := a.2.1.2.1
  have T8 := bb.1.1
  have gB := RR_gB a
  have mB := RR_mB a
  have g9 := g.2.2.1
  simp only [Int.reduceEq, Int.reduceNe, Int.reduceLT, Int.reduceLE, Int.reduceAdd, Int.reduceSub, Int.reduceMul, Int.reduceNeg, reduceIte, ite_true, ite_false, true_and, and_true, false_and, and_false, true_or, or_true, false_or, or_false, not_true_eq_false, not_false_eq_true, and_self, or_self, eq_self, ite_self, decide_true, decide_false, Bool.true_and, Bool.and_true, Bool.and_self, Bool.false_and, Int.add_zero, Int.zero_add] at g9
  have p8 := pw8 T8.1 T8.2
  have e108 := fun d => c_108 (d := d) (x := x) hK gB
  rw [ax_w32 hx.1 hx.2, g.1.1] at e108
  by_cases h1 : 0 ≤ x ∧ x < ((2 ^ (am_rd M 448 0).toNat : Nat) : Int)
  · have x1 : x < 256 := by omega
    have cn := ax_cnr x
    by_cases h2 : (1 ≤ ax_cn x ∧ ax_cn x ≤ 6) ∧ (-1 ≤ i ∧ i < ax_cn x)
    · obtain ⟨⟨c1, c6⟩, i0, i1⟩ := h2
      have fr := fct_r (n := (ax_cn x).toNat) (by omega)
      obtain ⟨r1, M1, e1, q1, s1, o1, f1⟩ := c_36 (d := d) hK h1.1 x1 c1 c6
      have K1 := ax_Kp e1 hK rfl
      have au0 : AU (asA x) (fnl (ixl (ax_cn x).toNat (0 : Int).toNat)) (asA x) (ax_cn x).toNat := fun j j0 j1 => by
        have := ix_0 (n := (ax_cn x).toNat) (j := j) (by omega) j0 j1
        rw [show (0 : Int).toNat = 0 from rfl, this]
        exact ⟨rfl, j0, j1⟩
      have k2 := c_176s (d := d) (M0 := M) (T := am_rd M 448 0) (L := fun j => am_rd M 448 (18 + j)) (z := x) (n := ax_cn x) (i := i) gB g.1.1 (fun j j0 j1 => g9 j j0 (by omega)) h1.1 x1 rfl c1 c6 i0 i1 (fct (ax_cn x).toNat) 0 0 M1 (by omega) (by omega) (by omega) (by omega) K1 s1 f1 (fun _ => ⟨_, o1, au0⟩)
      rw [if_neg (by omega)] at k2
      obtain ⟨r2, M2, e2, q2, f2⟩ := k2
      have jj : ∀ c i, ¬ jk c i → am_rd M2 c i = am_rd M c i := fun c i h => by unfold jk at h; exact f2 c i (by omega) (by omega)
      refine OP_ro (r := mzR i (fun o => ov x (ax_cn x) o i) (ax_fo (mzF (tpF (fun j => am_rd M 448 (18 + j)) (am_rd M 448 0) x (ax_cn x))) (fct (ax_cn x).toNat) 0 (0, 0))) a ?_ rfl ?_ rfl
      · rw [aq_216, c_99 h1.1 x1, Option.bind_some]
        dsimp only []
        rw [kr_1_0 hK, show am_ob 1 10 = true from rfl, show am_ob 2 2 = true from rfl, ax_gt, ax_gt, e108, Option.bind_some]
        dsimp only []
        rw [if_neg (by rw [ax_b0]; exact fun q => q h1), if_neg (by omega), if_pos c6, if_neg (by omega), if_pos i1, kr_1_14 hK, show am_ob 444 5 = true from rfl, ax_gt, aq_176, show am_ob 444 5 = true from rfl, ax_gt, e1, Option.bind_some]
        dsimp only []
        rw [q1, e2, Option.bind_some]
        exact ax_ok_some ⟨q2.trans (tz_mz i0 _ 0 (0, 0) (Or.inr rfl)), jj⟩
      · intro N a' f
        have q8 : ∀ i, am_rd N 448 i = am_rd M 448 i := fun i => f _ _ (by unfold jk; omega)
        obtain ⟨r3, M3, e3, q3, o3, f3⟩ := m_162 (d := d) a'.1 (q8 0) T8.1 T8.2 h1.1 h1.2
        have K3 := ax_Kp e3 a'.1 rfl
        obtain ⟨r4, M4, e4, q4, f4⟩ := m_203s (d := d) (M0 := N) (T := am_rd M 448 0) (L := fun j => am_rd M 448 (18 + j)) (z := x) (n := ax_cn x) (i := i) (q8 0) T8.1 T8.2 (fun j _ _ => q8 _) h1.1 x1 c1 c6 i0 i1 (fct (ax_cn x).toNat) 0 (0, 0) M3 (by omega) (by omega) (Int.le_refl 0) (Int.le_refl 0) K3 (fun x y hx => f3 x y (by omega)) o3 (fun h => by have h : (1 : Int) ≤ 0 := h; omega)
        have e145 := m_145 (d := d) (x := x) a'.1 (RR_mB a')
        rw [q8 0] at e145
        rw [aq_203, show am_ob 447 11 = true from rfl, ax_gt, e145, Option.bind_some]
        dsimp only []
        rw [if_neg (by rw [ax_b0]; exact fun q => q h1), m_66 h1.1 x1, Option.bind_some]
        dsimp only []
        rw [m_64, Option.bind_some]
        dsimp only []
        rw [if_neg (by rw [ax_b0]; exact fun q => q ⟨c1, c6⟩), m_66 h1.1 x1, Option.bind_some]
        dsimp only []
        rw [ax_w32 (by omega) (by omega), m_64, Option.bind_some]
        dsimp only []
        rw [if_neg (by rw [ax_b0]; exact fun q => q ⟨i0, by omega⟩), e3, Option.bind_some]
        dsimp only []
        rw [q3]
        have e4' : am_Ex d 203 30 [(2, 447), (0, x), (0, i), (0, ax_cn x), (0, 0), (0, 0)] [] M3 = some (r4, M4) := e4
        rw [e4']
        exact ax_ok_some ⟨q4, fun c i h => by unfold jk at h; exact f4 c i (by omega)⟩
    · refine ⟨-1, M, M, ?_, ?_, a⟩
      · rw [aq_216, c_99 h1.1 x1, Option.bind_some]
        dsimp only []
        rw [kr_1_0 hK, show am_ob 1 10 = true from rfl, show am_ob 2 2 = true from rfl, ax_gt, ax_gt, e108, Option.bind_some]
        dsimp only []
        rw [if_neg (by rw [ax_b0]; exact fun q => q h1)]
        by_cases k1 : ax_cn x < 1
        · rw [if_pos k1]
        · rw [if_neg k1]
          by_cases k2 : ax_cn x ≤ 6
          · rw [if_pos k2]
            by_cases k3 : i < -1
            · rw [if_pos k3]
            · rw [if_neg k3, if_neg (by omega)]
          · rw [if_neg k2]
      · rw [aq_203, show am_ob 447 11 = true from rfl, ax_gt, m_145 hK mB, Option.bind_some]
        dsimp only []
        rw [if_neg (by rw [ax_b0]; exact fun q => q h1), m_66 h1.1 x1, Option.bind_some]
        dsimp only []
        rw [m_64, Option.bind_some]
        dsimp only []
        by_cases k1 : 1 ≤ ax_cn x ∧ ax_cn x ≤ 6
        · rw [if_neg (by rw [ax_b0]; exact fun q => q k1), m_66 h1.1 x1, Option.bind_some]
          dsimp only []
          rw [ax_w32 (by omega) (by omega), m_64, Option.bind_some]
          dsimp only []
          rw [if_pos (by rw [ax_b0]; omega)]
        · rw [if_pos (by rw [ax_b0]; exact k1)]
  · refine ⟨-1, M, M, ?_, ?_, a⟩
    · obtain ⟨r, hr⟩ := c_99x (d := d) (M := M) (x := x)
      rw [aq_216, hr, Option.bind_some]
      dsimp only []
      rw [kr_1_0 hK, show am_ob 1 10 = true from rfl, show am_ob 2 2 = true from rfl, ax_gt, ax_gt, e108, Option.bind_some]
      dsimp only []
      rw [if_pos (by rw [ax_b0]; exact h1)]
    · rw [aq_203, show am_ob 447 11 = true from rfl, ax_gt, m_145 hK mB, Option.bind_some]
      dsimp only []
      rw [if_pos (by rw [ax_b0]; exact h1)]
end
