/-! winters -/
section
variable {M N : am_M} {d : Nat} {T n al m t k : Int} {P W H : Int → Int} {cd : Int → Option (List (Int × Int))}
theorem RF_trans {M1 M2 : am_M} (a : RF M M1) (b : RF M1 M2) : RF M M2 := fun c i h1 h2 h3 h4 h5 => (b c i h1 h2 h3 h4 h5).trans (a c i h1 h2 h3 h4 h5)
theorem RF_ME {M' : am_M} (E : ME M T n al P W cd) (f : RF M M') : ME M' T n al P W cd := ME_same E fun c i h => f c i (by omega) (by omega) (by omega) (by omega) (by omega)
theorem RF_mB {M' : am_M} (b : mb_B M) (f : RF M M') : mb_B M' := by
  have e : ∀ i, i < 60 → am_rd M' 448 i = am_rd M 448 i := fun i h => f _ _ (by omega) (by omega) (by omega) (by omega) (by omega)
  unfold mb_B
  rw [e 0 (by omega), e 1 (by omega), e 2 (by omega), e 6 (by omega), e 3 (by omega), e 5 (by omega)]
  exact b
theorem m_dr (hK : ax_K M) (F : FH M 448 60 H) (x0 : 0 ≤ H 163) (x1 : H 163 < 30293) (k0 : 0 < k) (k1 : k < 100) : ∃ M', (∀ d, am_Call d 92 [(2, 447), (0, k)] M = some (H 163 % k, M')) ∧ ax_K M' ∧ FH M' 448 60 (hX H) ∧ RF M M' := by
  have g : am_rd M 448 223 = H 163 := F 163 (by omega) (by omega)
  have w := RF_wr (v := (H 163 * 281 + 179) % 30293) F (j := 163) (i := 223) (by omega) (by omega) (by omega)
  refine ⟨am_wr M 448 223 ((H 163 * 281 + 179) % 30293), fun d => ?_, ax_Kw hK rfl, w.1, w.2⟩
  rw [m_92 hK (by omega) (by omega) k0 k1, g]
theorem FH_196 {j : Int} (F : FH M 448 60 H) (h0 : 0 ≤ j) (h1 : j < 6) : am_rd M 448 (216 + j) = H (156 + j) := by
  have := F (156 + j) (by omega) (by omega)
  rw [show 60 + (156 + j) = 216 + j by omega] at this
  exact this
theorem m_302 (hK : ax_K M) (F : FH M 448 60 H) (E : ME M T n al P W cd) (S : ES T n al P W cd) (b : mb_B M) (B : HB T H) (n0 : 0 < n) (T0 : 0 < T) : ax_ok (am_Call d 302 [(2, 447)] M) (fun _ M' => FH M' 448 60 (hWin T n al P W cd H) ∧ RF M M') := by
  have bT := S.1
  have hn := S.2.1
  have B1 := HB_X B
  have B2 := HB_X B1
  have B3 := HB_X B2
  have B4 := HB_X B3
  have w0 : 0 ≤ H 163 % 6 := Int.emod_nonneg _ (by omega)
  have w1 : H 163 % 6 < 6 := Int.emod_lt_of_pos _ (by omega)
  obtain ⟨M1, e1, K1, F1, f1⟩ := m_dr (k := 6) hK F B.2.2.2.1.1 B.2.2.2.1.2 (by omega) (by omega)
  obtain ⟨M2, e2, K2, F2, f2⟩ := m_dr (k := n) K1 F1 B1.2.2.2.1.1 B1.2.2.2.1.2 (by omega) (by omega)
  obtain ⟨M3, e3, K3, F3, f3⟩ := m_dr (k := T) K2 F2 B2.2.2.2.1.1 B2.2.2.2.1.2 (by omega) (by omega)
  obtain ⟨M4, e4, K4, F4, f4⟩ := m_dr (k := 40) K3 F3 B3.2.2.2.1.1 B3.2.2.2.1.2 (by omega) (by omega)
  have E1 := RF_ME E f1
  have E2 := RF_ME E1 f2
  have E3 := RF_ME E2 f3
  have E4 := RF_ME E3 f4
  have b1 := RF_mB b f1
  have b2 := RF_mB b1 f2
  have b3 := RF_mB b2 f3
  have b4 := RF_mB b3 f4
  have f02 := RF_trans f1 f2
  have f03 := RF_trans f02 f3
  have f04 := RF_trans f03 f4
  have x1 := hNi_x (T := T) (n := n) (al := al) (P := P) (W := W) (cd := cd) (H := hX H) S (j := 163) rfl
  rw [aq_302]
  unfold hWin
  dsimp only
  generalize hX H = H1 at *
  generalize hX H1 = H2 at *
  generalize hX H2 = H3 at *
  generalize hX H3 = H4 at *
  have m0 : 0 ≤ H1 163 % n := Int.emod_nonneg _ (by omega)
  have m1 : H1 163 % n < n := Int.emod_lt_of_pos _ n0
  have t0 : 0 ≤ H2 163 % T := Int.emod_nonneg _ (by omega)
  have t1 : H2 163 % T < T := Int.emod_lt_of_pos _ T0
  have k0 : 0 ≤ H3 163 % 40 := Int.emod_nonneg _ (by omega)
  have k1 : H3 163 % 40 < 40 := Int.emod_lt_of_pos _ (by omega)
  generalize H1 163 % n = m at *
  generalize H2 163 % T = t at *
  generalize H3 163 % 40 = k at *
  generalize H 163 % 6 = w at *
  by_cases hw : 3 < w
  · rw [if_pos hw]
    have gd : am_rd M1 448 222 = H1 162 := F1 162 (by omega) (by omega)
    by_cases hd : H1 162 < 999
    · rw [if_pos hd]
      obtain ⟨r5, M5, e5, F5, f5⟩ := m_296 (d := d) K1 F1 E1 S B1 (by omega) x1
      simp (disch := first | assumption | omega) only [ax_gt, ax_gi, Option.bind_some, ax_gbl, ax_gb2, ax_gd, Int.reduceEq, Int.reduceNe, Int.reduceLT, Int.reduceLE, Int.reduceAdd, Int.reduceSub, Int.reduceMul, Int.reduceNeg, reduceIte, ite_true, ite_false, true_and, and_true, false_and, and_false, true_or, or_true, false_or, or_false, not_true_eq_false, not_false_eq_true, and_self, or_self, eq_self, ite_self, decide_true, decide_false, Bool.true_and, Bool.and_true, Bool.and_self, Bool.false_and, Int.add_zero, Int.zero_add, ax_rw, if_pos, if_neg, ax_o_447, ax_a_448, kr_447_0, e1, gd, e5]
      exact ax_ok_some ⟨F5, RF_trans f1 f5⟩
    · rw [if_neg hd]
      simp (disch := first | assumption | omega) only [ax_gt, ax_gi, Option.bind_some, ax_gbl, ax_gb2, ax_gd, Int.reduceEq, Int.reduceNe, Int.reduceLT, Int.reduceLE, Int.reduceAdd, Int.reduceSub, Int.reduceMul, Int.reduceNeg, reduceIte, ite_true, ite_false, true_and, and_true, false_and, and_false, true_or, or_true, false_or, or_false, not_true_eq_false, not_false_eq_true, and_self, or_self, eq_self, ite_self, decide_true, decide_false, Bool.true_and, Bool.and_true, Bool.and_self, Bool.false_and, Int.add_zero, Int.zero_add, ax_rw, if_pos, if_neg, ax_o_447, ax_a_448, kr_447_0, e1, gd]
      exact ax_ok_some ⟨F1, f1⟩
  rw [if_neg hw]
  have gn : am_rd M1 448 1 = n := E1.1.2.1
  have gT : am_rd M2 448 0 = T := E2.1.1
  by_cases h3 : w = 3
  · subst h3
    have e5 := fun d => m_196 (d := d) (m := m) K2 b2
    rw [E2.1.2.1, FH_196 F2 m0 (by omega)] at e5
    simp only [Int.reduceEq, Int.reduceNe, Int.reduceLT, Int.reduceLE, Int.reduceAdd, Int.reduceSub, Int.reduceMul, Int.reduceNeg, reduceIte, ite_true, ite_false, true_and, and_true, false_and, and_false, true_or, or_true, false_or, or_false, not_true_eq_false, not_false_eq_true, and_self, or_self, eq_self, ite_self, decide_true, decide_false, Bool.true_and, Bool.and_true, Bool.and_self, Bool.false_and, Int.add_zero, Int.zero_add]
    by_cases hf : H2 (156 + m) = 0
    · rw [if_pos hf]
      obtain ⟨r6, M6, e6, F6, f6⟩ := m_158 (d := d) K2 F2 E2 S B2 m0 (by omega)
      simp (disch := first | assumption | omega) only [ax_gt, ax_gi, Option.bind_some, ax_gbl, ax_gb2, ax_gd, Int.reduceEq, Int.reduceNe, Int.reduceLT, Int.reduceLE, Int.reduceAdd, Int.reduceSub, Int.reduceMul, Int.reduceNeg, reduceIte, ite_true, ite_false, true_and, and_true, false_and, and_false, true_or, or_true, false_or, or_false, not_true_eq_false, not_false_eq_true, and_self, or_self, eq_self, ite_self, decide_true, decide_false, Bool.true_and, Bool.and_true, Bool.and_self, Bool.false_and, Int.add_zero, Int.zero_add, ax_rw, if_pos, if_neg, ax_o_447, ax_a_448, kr_447_0, e1, gn, e2, e5, ax_b0, m0, m1, hf, e6]
      exact ax_ok_some ⟨F6, RF_trans f02 f6⟩
    · rw [if_neg hf]
      simp (disch := first | assumption | omega) only [ax_gt, ax_gi, Option.bind_some, ax_gbl, ax_gb2, ax_gd, Int.reduceEq, Int.reduceNe, Int.reduceLT, Int.reduceLE, Int.reduceAdd, Int.reduceSub, Int.reduceMul, Int.reduceNeg, reduceIte, ite_true, ite_false, true_and, and_true, false_and, and_false, true_or, or_true, false_or, or_false, not_true_eq_false, not_false_eq_true, and_self, or_self, eq_self, ite_self, decide_true, decide_false, Bool.true_and, Bool.and_true, Bool.and_self, Bool.false_and, Int.add_zero, Int.zero_add, ax_rw, if_pos, if_neg, ax_o_447, ax_a_448, kr_447_0, e1, gn, e2, e5, ax_b0, m0, m1, hf]
      exact ax_ok_some ⟨F2, f02⟩
  rw [if_neg h3]
  by_cases h2 : w < 2
  · simp only [if_pos h2]
    have e5 := fun d => m_196 (d := d) (m := m) K4 b4
    rw [E4.1.2.1, FH_196 F4 m0 (by omega)] at e5
    have e225 := fun d => m_225 (d := d) (m := m) (t := t) K4 b4
    have g150 : am_rd M4 448 (210 + m) = H4 (150 + m) := by
      have := F4 (150 + m) (by omega) (by omega)
      rw [show 60 + (150 + m) = 210 + m by omega] at this
      exact this
    rw [E4.1.2.1, E4.1.1, FH_196 F4 m0 (by omega), g150] at e225
    by_cases hw0 : w = 0
    · subst hw0
      have fin : ∀ M5, am_Ex d 302 67 [(2, 447), (0, 0), (0, m), (0, t), (0, 1 + k)] [] M5 = some (0, M5) := fun M5 => by
        rw [aq_302_67, if_neg (by omega), aq_302_80, if_neg (by omega)]
      simp only [Int.reduceEq, Int.reduceNe, Int.reduceLT, Int.reduceLE, Int.reduceAdd, Int.reduceSub, Int.reduceMul, Int.reduceNeg, reduceIte, ite_true, ite_false, true_and, and_true, false_and, and_false, true_or, or_true, false_or, or_false, not_true_eq_false, not_false_eq_true, and_self, or_self, eq_self, ite_self, decide_true, decide_false, Bool.true_and, Bool.and_true, Bool.and_self, Bool.false_and, Int.add_zero, Int.zero_add]
      by_cases hf : H4 (156 + m) = 0
      · rw [if_pos hf]
        by_cases ht : H4 (150 + m) = t
        · rw [if_pos ht]
          simp (disch := first | assumption | omega) only [ax_gt, ax_gi, Option.bind_some, ax_gbl, ax_gb2, ax_gd, Int.reduceEq, Int.reduceNe, Int.reduceLT, Int.reduceLE, Int.reduceAdd, Int.reduceSub, Int.reduceMul, Int.reduceNeg, reduceIte, ite_true, ite_false, true_and, and_true, false_and, and_false, true_or, or_true, false_or, or_false, not_true_eq_false, not_false_eq_true, and_self, or_self, eq_self, ite_self, decide_true, decide_false, Bool.true_and, Bool.and_true, Bool.and_self, Bool.false_and, Int.add_zero, Int.zero_add, ax_rw, if_pos, if_neg, ax_w32, ax_let, ax_o_447, ax_a_448, kr_447_0, e1, gn, e2, gT, e3, e4, e225, ax_b0, m0, m1, t0, t1, hf, ht, fin]
          exact ax_ok_some ⟨F4, f04⟩
        · rw [if_neg ht]
          obtain ⟨r6, M6, e6, F6, f6⟩ := m_197 (d := d) (v := 1 + k) K4 F4 B4 m0 (by omega) t0 (by omega) (by omega) (by omega)
          simp (disch := first | assumption | omega) only [ax_gt, ax_gi, Option.bind_some, ax_gbl, ax_gb2, ax_gd, Int.reduceEq, Int.reduceNe, Int.reduceLT, Int.reduceLE, Int.reduceAdd, Int.reduceSub, Int.reduceMul, Int.reduceNeg, reduceIte, ite_true, ite_false, true_and, and_true, false_and, and_false, true_or, or_true, false_or, or_false, not_true_eq_false, not_false_eq_true, and_self, or_self, eq_self, ite_self, decide_true, decide_false, Bool.true_and, Bool.and_true, Bool.and_self, Bool.false_and, Int.add_zero, Int.zero_add, ax_rw, if_pos, if_neg, ax_w32, ax_let, ax_o_447, ax_a_448, kr_447_0, e1, gn, e2, gT, e3, e4, e225, ax_b0, m0, m1, t0, t1, hf, ht, e6, fin]
          exact ax_ok_some ⟨F6, RF_trans f04 f6⟩
      · rw [if_neg hf]
        simp (disch := first | assumption | omega) only [ax_gt, ax_gi, Option.bind_some, ax_gbl, ax_gb2, ax_gd, Int.reduceEq, Int.reduceNe, Int.reduceLT, Int.reduceLE, Int.reduceAdd, Int.reduceSub, Int.reduceMul, Int.reduceNeg, reduceIte, ite_true, ite_false, true_and, and_true, false_and, and_false, true_or, or_true, false_or, or_false, not_true_eq_false, not_false_eq_true, and_self, or_self, eq_self, ite_self, decide_true, decide_false, Bool.true_and, Bool.and_true, Bool.and_self, Bool.false_and, Int.add_zero, Int.zero_add, ax_rw, if_pos, if_neg, ax_w32, ax_let, ax_o_447, ax_a_448, kr_447_0, e1, gn, e2, gT, e3, e4, e225, ax_b0, m0, m1, t0, t1, hf, fin]
        exact ax_ok_some ⟨F4, f04⟩
    · have hw1 : w = 1 := by omega
      subst hw1
      have fin : ∀ M5, am_Ex d 302 80 [(2, 447), (0, 1), (0, m), (0, t), am_N] [] M5 = some (0, M5) := fun M5 => by
        rw [aq_302_80, if_neg (by omega)]
      simp only [Int.reduceEq, Int.reduceNe, Int.reduceLT, Int.reduceLE, Int.reduceAdd, Int.reduceSub, Int.reduceMul, Int.reduceNeg, reduceIte, ite_true, ite_false, true_and, and_true, false_and, and_false, true_or, or_true, false_or, or_false, not_true_eq_false, not_false_eq_true, and_self, or_self, eq_self, ite_self, decide_true, decide_false, Bool.true_and, Bool.and_true, Bool.and_self, Bool.false_and, Int.add_zero, Int.zero_add]
      have go : ax_ok (am_Ex d 302 67 [(2, 447), (0, 1), (0, m), (0, t), (0, 1 + k)] [] M4) (fun _ M' => FH M' 448 60 (if H4 (156 + m) = 0 then hM P W cd m t (1 + k) H4 else H4) ∧ RF M M') := by
        rw [aq_302_67]
        by_cases hf : H4 (156 + m) = 0
        · rw [if_pos hf]
          obtain ⟨r6, M6, e6, F6, f6⟩ := m_266 (d := d) (k := 1 + k) K4 F4 E4 S B4 m0 (by omega) t0 t1 (by omega) (by omega)
          simp (disch := first | assumption | omega) only [ax_gt, ax_gi, Option.bind_some, ax_gbl, ax_gb2, ax_gd, Int.reduceEq, Int.reduceNe, Int.reduceLT, Int.reduceLE, Int.reduceAdd, Int.reduceSub, Int.reduceMul, Int.reduceNeg, reduceIte, ite_true, ite_false, true_and, and_true, false_and, and_false, true_or, or_true, false_or, or_false, not_true_eq_false, not_false_eq_true, and_self, or_self, eq_self, ite_self, decide_true, decide_false, Bool.true_and, Bool.and_true, Bool.and_self, Bool.false_and, Int.add_zero, Int.zero_add, ax_rw, if_pos, if_neg, ax_o_447, e5, ax_b0, m0, m1, hf, e6, fin]
          exact ax_ok_some ⟨F6, RF_trans f04 f6⟩
        · rw [if_neg hf]
          simp (disch := first | assumption | omega) only [ax_gt, ax_gi, Option.bind_some, ax_gbl, ax_gb2, ax_gd, Int.reduceEq, Int.reduceNe, Int.reduceLT, Int.reduceLE, Int.reduceAdd, Int.reduceSub, Int.reduceMul, Int.reduceNeg, reduceIte, ite_true, ite_false, true_and, and_true, false_and, and_false, true_or, or_true, false_or, or_false, not_true_eq_false, not_false_eq_true, and_self, or_self, eq_self, ite_self, decide_true, decide_false, Bool.true_and, Bool.and_true, Bool.and_self, Bool.false_and, Int.add_zero, Int.zero_add, ax_rw, if_pos, if_neg, ax_o_447, e5, ax_b0, m0, m1, hf, fin]
          exact ax_ok_some ⟨F4, f04⟩
      simp (disch := first | assumption | omega) only [ax_gt, ax_gi, Option.bind_some, ax_gbl, ax_gb2, ax_gd, Int.reduceEq, Int.reduceNe, Int.reduceLT, Int.reduceLE, Int.reduceAdd, Int.reduceSub, Int.reduceMul, Int.reduceNeg, reduceIte, ite_true, ite_false, true_and, and_true, false_and, and_false, true_or, or_true, false_or, or_false, not_true_eq_false, not_false_eq_true, and_self, or_self, eq_self, ite_self, decide_true, decide_false, Bool.true_and, Bool.and_true, Bool.and_self, Bool.false_and, Int.add_zero, Int.zero_add, ax_rw, if_pos, if_neg, ax_w32, ax_let, ax_o_447, ax_a_448, kr_447_0, e1, gn, e2, gT, e3, e4]
      exact go
  · have hw2 : w = 2 := by omega
    subst hw2
    simp only [Int.reduceEq, Int.reduceNe, Int.reduceLT, Int.reduceLE, Int.reduceAdd, Int.reduceSub, Int.reduceMul, Int.reduceNeg, reduceIte, ite_true, ite_false, true_and, and_true, false_and, and_false, true_or, or_true, false_or, or_false, not_true_eq_false, not_false_eq_true, and_self, or_self, eq_self, ite_self, decide_true, decide_false, Bool.true_and, Bool.and_true, Bool.and_self, Bool.false_and, Int.add_zero, Int.zero_add]
    have e5 := fun d => m_196 (d := d) (m := m) K3 b3
    rw [E3.1.2.1, FH_196 F3 m0 (by omega)] at e5
    have g144 : am_rd M3 448 (204 + m) = H3 (144 + m) := by
      have := F3 (144 + m) (by omega) (by omega)
      rw [show 60 + (144 + m) = 204 + m by omega] at this
      exact this
    have go : ax_ok (am_Ex d 302 67 [(2, 447), (0, 2), (0, m), (0, t), (0, 0)] [] M3) (fun _ M' => FH M' 448 60 (if H3 (156 + m) = 0 then hu H3 (144 + m) (am_xor (H3 (144 + m)) (am_shl 1 t)) else H3) ∧ RF M M') := by
      rw [aq_302_67, if_neg (by omega), aq_302_80]
      have w := RF_wr (v := am_xor (H3 (144 + m)) (am_shl 1 t)) F3 (j := 144 + m) (i := 204 + m) (by omega) (by omega) (by omega)
      by_cases hf : H3 (156 + m) = 0
      · rw [if_pos hf]
        simp (disch := first | assumption | omega) only [ax_gt, ax_gi, Option.bind_some, ax_gbl, ax_gb2, ax_gd, Int.reduceEq, Int.reduceNe, Int.reduceLT, Int.reduceLE, Int.reduceAdd, Int.reduceSub, Int.reduceMul, Int.reduceNeg, reduceIte, ite_true, ite_false, true_and, and_true, false_and, and_false, true_or, or_true, false_or, or_false, not_true_eq_false, not_false_eq_true, and_self, or_self, eq_self, ite_self, decide_true, decide_false, Bool.true_and, Bool.and_true, Bool.and_self, Bool.false_and, Int.add_zero, Int.zero_add, ax_rw, if_pos, if_neg, ax_w32, ax_let, ax_o_447, ax_a_448, kr_447_0, e5, ax_b0, m0, m1, hf, g144]
        exact ax_ok_some ⟨w.1, RF_trans f03 w.2⟩
      · rw [if_neg hf]
        simp (disch := first | assumption | omega) only [ax_gt, ax_gi, Option.bind_some, ax_gbl, ax_gb2, ax_gd, Int.reduceEq, Int.reduceNe, Int.reduceLT, Int.reduceLE, Int.reduceAdd, Int.reduceSub, Int.reduceMul, Int.reduceNeg, reduceIte, ite_true, ite_false, true_and, and_true, false_and, and_false, true_or, or_true, false_or, or_false, not_true_eq_false, not_false_eq_true, and_self, or_self, eq_self, ite_self, decide_true, decide_false, Bool.true_and, Bool.and_true, Bool.and_self, Bool.false_and, Int.add_zero, Int.zero_add, ax_rw, if_pos, if_neg, ax_o_447, e5, ax_b0, m0, m1, hf]
        exact ax_ok_some ⟨F3, f03⟩
    simp (disch := first | assumption | omega) only [ax_gt, ax_gi, Option.bind_some, ax_gbl, ax_gb2, ax_gd, Int.reduceEq, Int.reduceNe, Int.reduceLT, Int.reduceLE, Int.reduceAdd, Int.reduceSub, Int.reduceMul, Int.reduceNeg, reduceIte, ite_true, ite_false, true_and, and_true, false_and, and_false, true_or, or_true, false_or, or_false, not_true_eq_false, not_false_eq_true, and_self, or_self, eq_self, ite_self, decide_true, decide_false, Bool.true_and, Bool.and_true, Bool.and_self, Bool.false_and, Int.add_zero, Int.zero_add, ax_rw, if_pos, if_neg, ax_w32, ax_let, ax_o_447, ax_a_448, kr_447_0, e1, gn, e2, gT, e3]
    exact go
def wiK (T n al : Int) (P W : Int → Int) (cd : Int → Option (List (Int × Int))) (k : Int) (H : Int → Int) : Int → Int := ax_fo (fun _ H => hWin T n al P W cd H) (k - 0).toNat 0 H
theorem hWin_day (S : ES T n al P W cd) (B : HB T H) (n0 : 0 < n) (T0 : 0 < T) (hd : H 162 ≤ 999) : hWin T n al P W cd H 162 ≤ 999 := by
  have bT := S.1
  have hn := S.2.1
  have x1 : hX H 162 = H 162 := by unfold hX; exact hu_ne (by omega)
  have x2 : hX (hX H) 162 = H 162 := by unfold hX; rw [hu_ne (by omega), hu_ne (by omega)]
  have x3 : hX (hX (hX H)) 162 = H 162 := by unfold hX; rw [hu_ne (by omega), hu_ne (by omega), hu_ne (by omega)]
  have x4 : hX (hX (hX (hX H))) 162 = H 162 := by unfold hX; rw [hu_ne (by omega), hu_ne (by omega), hu_ne (by omega), hu_ne (by omega)]
  unfold hWin
  dsimp only
  generalize hX H = H1 at *
  generalize hX H1 = H2 at *
  generalize hX H2 = H3 at *
  generalize hX H3 = H4 at *
  have m0 : 0 ≤ H1 163 % n := Int.emod_nonneg _ (by omega)
  have m1 : H1 163 % n < n := Int.emod_lt_of_pos _ n0
  have t0 : 0 ≤ H2 163 % T := Int.emod_nonneg _ (by omega)
  have t1 : H2 163 % T < T := Int.emod_lt_of_pos _ T0
  generalize H1 163 % n = m at *
  generalize H2 163 % T = t at *
  have x5 : (if H 163 % 6 < 2 then H4 else H3) 162 = H 162 := by split <;> assumption
  generalize (if H 163 % 6 < 2 then H4 else H3) = H5 at *
  split
  · split
    · rw [hNi_day S (Int.le_refl 0) (by omega : n ≤ 6)]; omega
    · omega
  split
  · split
    · have : hDr T m H2 162 = H2 162 := by
        unfold hDr
        refine ax_fo_inv (P := fun _ (H' : Int → Int) => H' 162 = H2 162) _ _ _ (fun t H' t0 t1 hH => ?_) rfl
        split
        · exact hH
        · simp (disch := omega) only [hR, hu, if_neg]; exact hH
      omega
    · omega
  split
  · split
    · rw [hu_ne (by omega)]; omega
    split
    · have : ∀ k, hM P W cd m t k H5 162 = H5 162 := fun k => by
        unfold hM
        split
        · simp (disch := omega) only [hW, hu, if_neg]
        · simp (disch := omega) only [hR, hW, hu, if_neg]
      rw [this]; omega
    split
    · omega
    · have : ∀ v, hR H5 m t v 162 = H5 162 := fun v => by simp (disch := omega) only [hR, hu, if_neg]
      rw [this]; omega
  · omega
theorem op_winters (a : RR M) {s k : Int} : OP d M 290 303 [(0, s), (0, k)] := by
  have hK := a.1
  have mB := RR_mB a
  have g := a.2.1.1
  have bT := a.2.1.2.1.1.1
  have hn := a.2.1.2.1.1.2.1
  have hd := a.2.1.2.2.1.2.2
  have C := RR_C a
  have B := RR_H a
  obtain ⟨P, W, cd, E, E2, S⟩ := RR_env a
  by_cases h1 : (0 ≤ s ∧ s ≤ 9999) ∧ (1 ≤ k ∧ k ≤ 30)
  · by_cases h2 : 1 ≤ am_rd M 448 1 ∧ 1 ≤ am_rd M 448 0
    · have ey : ∀ H : Int → Int, HB (am_rd M 448 0) H → H 162 ≤ 999 → ∀ i j : Int, HB (am_rd M 448 0) (ax_fo (fun _ H => hWin (am_rd M 448 0) (am_rd M 448 1) (am_rd M 448 7) P W cd H) j.toNat i H) ∧ (ax_fo (fun _ H => hWin (am_rd M 448 0) (am_rd M 448 1) (am_rd M 448 7) P W cd H) j.toNat i H) 162 ≤ 999 := fun H hB hH i j =>
        ax_fo_inv (P := fun _ (H : Int → Int) => HB (am_rd M 448 0) H ∧ H 162 ≤ 999) _ _ _ (fun _ H _ _ h => ⟨HB_Win S h.1 (by omega) (by omega), hWin_day S h.1 (by omega) (by omega) h.2⟩) ⟨hB, hH⟩
      have d1 : fl M 448 60 162 = am_rd M 448 222 := fl_at (by omega)
      have B0 := HB_x (v := s * 2 + 73) B (by omega) (by omega)
      have dd0 : hu (fl M 448 60) 163 (s * 2 + 73) 162 ≤ 999 := by rw [hu_ne (by omega), d1]; exact hd
      have Bk := ey _ B0 dd0 0 (k - 0)
      refine OP_st (H' := wiK (am_rd M 448 0) (am_rd M 448 1) (am_rd M 448 7) P W cd k (hu (fl M 448 60) 163 (s * 2 + 73))) (r := ax_fo (fun m x => x + wiK (am_rd M 448 0) (am_rd M 448 1) (am_rd M 448 7) P W cd k (hu (fl M 448 60) 163 (s * 2 + 73)) (156 + m)) (am_rd M 448 1 - 0).toNat 0 0) a Bk.1 Bk.2 ?_ rfl ?_ rfl
      · obtain ⟨r1, Ma, e1, K1, k1, C1, g1⟩ := KP_get d a
        obtain ⟨K2, C2, F2⟩ := c_xx (v := s * 2 + 73) K1 h88 C1
        have E1 := CE_same E g1
        have gM : am_rd M 2 6 = am_rd M 448 1 := g.1.2.1
        have gT : am_rd M 2 5 = am_rd M 448 0 := g.1.1
        rw [aq_290]
        simp (disch := first | assumption | omega) only [ax_gt, ax_gi, Option.bind_some, ax_gbl, ax_gb2, ax_gd, Int.reduceEq, Int.reduceNe, Int.reduceLT, Int.reduceLE, Int.reduceAdd, Int.reduceSub, Int.reduceMul, Int.reduceNeg, reduceIte, ite_true, ite_false, true_and, and_true, false_and, and_false, true_or, or_true, false_or, or_false, not_true_eq_false, not_false_eq_true, and_self, or_self, eq_self, ite_self, decide_true, decide_false, Bool.true_and, Bool.and_true, Bool.and_self, Bool.false_and, Int.add_zero, Int.zero_add, ax_rw, if_pos, if_neg, ax_w32, ax_o_1, kr_1_0, kr_1_1, kr_1_2, kr_1_3, kr_1_4, kr_1_5, kr_1_6, kr_1_7, kr_1_9, kr_1_10, kr_1_11, kr_1_12, kr_1_13, kr_1_14, ax_a_419, ax_o_2, kr_2_0, kr_2_1, kr_2_2, kr_2_3, kr_2_4, ax_a_3, ax_a_4, ax_a_5, ax_a_6, ax_a_7, ax_o_8, kr_8_0, kr_8_1, kr_8_2, kr_8_3, kr_8_4, ax_a_9, ax_a_10, ax_a_11, ax_a_12, ax_a_13, ax_o_55, kr_55_0, ax_q_56, gM, gT, e1]
        rw [ax_let]
        generalize am_wr Ma 8 7 (s * 2 + 73) = M2 at *
        have E2' := HF_CE h88 E1 F2
        refine ax_loopQ (σ := Int → Int) (X := fun i _ m' => am_Ex d 290 40 [(2, 1), am_N, (0, k), (0, i)] [] m') (n := k) (fun i H' m' => 0 ≤ i ∧ ax_K m' ∧ CH m' 8 (am_rd M 448 1) H' ∧ HF Ma m' 8 ∧ HB (am_rd M 448 0) H' ∧ ax_fo (fun _ H => hWin (am_rd M 448 0) (am_rd M 448 1) (am_rd M 448 7) P W cd H) (k - i).toNat i H' = wiK (am_rd M 448 0) (am_rd M 448 1) (am_rd M 448 7) P W cd k (hu (fl M 448 60) 163 (s * 2 + 73))) ?_ ?_ (k - 0).toNat 0 (hu (fl M 448 60) 163 (s * 2 + 73)) M2 (by omega) ⟨by omega, K2, C2, F2, B0, rfl⟩
        · intro i H' m' ⟨i0, K', C', F', B', hs⟩ i1 hnext
          have E' := HF_CE h88 E1 F'
          obtain ⟨r3, M3, e3, C3, F3⟩ := c_272 (d := d) K' C' E' S B' (by omega) (by omega)
          show ax_ok (am_Ex d 290 40 _ _ _) _
          rw [aq_290_40]
          simp (disch := first | assumption | omega) only [ax_gt, ax_gi, Option.bind_some, ax_gbl, ax_gb2, ax_gd, Int.reduceEq, Int.reduceNe, Int.reduceLT, Int.reduceLE, Int.reduceAdd, Int.reduceSub, Int.reduceMul, Int.reduceNeg, reduceIte, ite_true, ite_false, true_and, and_true, false_and, and_false, true_or, or_true, false_or, or_false, not_true_eq_false, not_false_eq_true, and_self, or_self, eq_self, ite_self, decide_true, decide_false, Bool.true_and, Bool.and_true, Bool.and_self, Bool.false_and, Int.add_zero, Int.zero_add, ax_rw, if_pos, if_neg, ax_o_1, kr_1_0, kr_1_1, kr_1_2, kr_1_3, kr_1_4, kr_1_5, kr_1_6, kr_1_7, kr_1_9, kr_1_10, kr_1_11, kr_1_12, kr_1_13, kr_1_14, ax_a_419, ax_o_2, kr_2_0, kr_2_1, kr_2_2, kr_2_3, kr_2_4, ax_a_3, ax_a_4, ax_a_5, ax_a_6, ax_a_7, ax_o_8, kr_8_0, kr_8_1, kr_8_2, kr_8_3, kr_8_4, ax_a_9, ax_a_10, ax_a_11, ax_a_12, ax_a_13, ax_o_42, kr_42_0, kr_42_1, e3]
          rw [ax_let, ax_w32 (by omega) (by omega)]
          exact hnext _ M3 ⟨by omega, ax_Kp e3 K' rfl, C3, HF_trans F' F3, HB_Win S B' (by omega) (by omega), by rw [← hs, ax_fo_s i1]⟩
        · intro H' m' ⟨i0, K', C', F', B', hs⟩
          rw [ax_fo_e (Int.le_refl _)] at hs
          subst hs
          have E' := HF_CE h88 E1 F'
          have e5 := c_122 (d := d) K' C' B' hn.2 hn.1
          show ax_ok (am_Ex d 290 40 _ _ _) _
          rw [aq_290_40]
          simp (disch := first | assumption | omega) only [ax_gt, ax_gi, Option.bind_some, ax_gbl, ax_gb2, ax_gd, Int.reduceEq, Int.reduceNe, Int.reduceLT, Int.reduceLE, Int.reduceAdd, Int.reduceSub, Int.reduceMul, Int.reduceNeg, reduceIte, ite_true, ite_false, true_and, and_true, false_and, and_false, true_or, or_true, false_or, or_false, not_true_eq_false, not_false_eq_true, and_self, or_self, eq_self, ite_self, decide_true, decide_false, Bool.true_and, Bool.and_true, Bool.and_self, Bool.false_and, Int.add_zero, Int.zero_add, ax_rw, if_pos, if_neg, ax_o_1, kr_1_0, kr_1_1, kr_1_2, kr_1_3, kr_1_4, kr_1_5, kr_1_6, kr_1_7, kr_1_9, kr_1_10, kr_1_11, kr_1_12, kr_1_13, kr_1_14, ax_a_419, ax_o_2, kr_2_0, kr_2_1, kr_2_2, kr_2_3, kr_2_4, ax_a_3, ax_a_4, ax_a_5, ax_a_6, ax_a_7, ax_o_8, kr_8_0, kr_8_1, kr_8_2, kr_8_3, kr_8_4, ax_a_9, ax_a_10, ax_a_11, ax_a_12, ax_a_13, Int.lt_irrefl, E'.1.2.1, e5]
          exact ax_ok_some ⟨rfl, Ma, k1, F', C'⟩
      · intro N hN D
        have mB' := DF_mB mB D
        have g1 : am_rd N 448 1 = am_rd M 448 1 := DF_r D
        have g0 : am_rd N 448 0 = am_rd M 448 0 := DF_r D
        obtain ⟨r5, M5, e5, k5⟩ := m_68' (d := d) hN mB'
        have K5 := ax_Kp e5 hN rfl
        have F5 := KM_FH (DF_fl D) k5 mB'.2.2.2.2.2.1
        have E5 := KM_ME (DF_ME E2 D) k5 mB'.2.2.2.2.2.1
        have w := RF_wr (v := s * 2 + 73) F5 (j := 163) (i := 223) (by omega) (by omega) (by omega)
        have mB5 : mb_B M5 := by
          have h5 : am_rd M5 448 5 = min (am_rd N 448 5) 29 + 1 := by rw [k5, if_pos rfl, if_pos rfl]
          have := mB'.2.2.2.2.2
          have low : ∀ i, i < 60 → i ≠ 5 → am_rd M5 448 i = am_rd N 448 i := fun i h0 h5 => KM_low k5 mB'.2.2.2.2.2.1 h0 h5
          unfold mb_B
          rw [low 0 (by omega) (by omega), low 1 (by omega) (by omega), low 2 (by omega) (by omega), low 6 (by omega) (by omega), low 3 (by omega) (by omega), h5]
          exact ⟨mB'.1, mB'.2.1, mB'.2.2.1, mB'.2.2.2.1, mB'.2.2.2.2.1, by omega⟩
        rw [aq_303]
        simp (disch := first | assumption | omega) only [ax_gt, ax_gi, Option.bind_some, ax_gbl, ax_gb2, ax_gd, Int.reduceEq, Int.reduceNe, Int.reduceLT, Int.reduceLE, Int.reduceAdd, Int.reduceSub, Int.reduceMul, Int.reduceNeg, reduceIte, ite_true, ite_false, true_and, and_true, false_and, and_false, true_or, or_true, false_or, or_false, not_true_eq_false, not_false_eq_true, and_self, or_self, eq_self, ite_self, decide_true, decide_false, Bool.true_and, Bool.and_true, Bool.and_self, Bool.false_and, Int.add_zero, Int.zero_add, ax_rw, if_pos, if_neg, ax_w32, ax_o_447, ax_a_448, kr_447_0, m_64, ax_b0, h1, g1, g0, e5]
        rw [ax_let]
        have K6 : ax_K (am_wr M5 448 223 (s * 2 + 73)) := ax_Kw K5 rfl
        generalize am_wr M5 448 223 (s * 2 + 73) = M6 at *
        refine ax_loopQ (σ := Int → Int) (X := fun i _ m' => am_Ex d 303 37 [(2, 447), am_N, (0, k), (0, i)] [] m') (n := k) (fun i H' m' => 0 ≤ i ∧ ax_K m' ∧ FH m' 448 60 H' ∧ RF M5 m' ∧ HB (am_rd M 448 0) H' ∧ ax_fo (fun _ H => hWin (am_rd M 448 0) (am_rd M 448 1) (am_rd M 448 7) P W cd H) (k - i).toNat i H' = wiK (am_rd M 448 0) (am_rd M 448 1) (am_rd M 448 7) P W cd k (hu (fl M 448 60) 163 (s * 2 + 73))) ?_ ?_ (k - 0).toNat 0 (hu (fl M 448 60) 163 (s * 2 + 73)) M6 (by omega) ⟨by omega, K6, w.1, w.2, B0, rfl⟩
        · intro i H' m' ⟨i0, K', F', f', B', hs⟩ i1 hnext
          obtain ⟨r3, M3, e3, F3, f3⟩ := m_302 (d := d) K' F' (RF_ME E5 f') S (RF_mB mB5 f') B' (by omega) (by omega)
          show ax_ok (am_Ex d 303 37 _ _ _) _
          rw [aq_303_37]
          simp (disch := first | assumption | omega) only [ax_gt, ax_gi, Option.bind_some, ax_gbl, ax_gb2, ax_gd, Int.reduceEq, Int.reduceNe, Int.reduceLT, Int.reduceLE, Int.reduceAdd, Int.reduceSub, Int.reduceMul, Int.reduceNeg, reduceIte, ite_true, ite_false, true_and, and_true, false_and, and_false, true_or, or_true, false_or, or_false, not_true_eq_false, not_false_eq_true, and_self, or_self, eq_self, ite_self, decide_true, decide_false, Bool.true_and, Bool.and_true, Bool.and_self, Bool.false_and, Int.add_zero, Int.zero_add, ax_rw, if_pos, if_neg, ax_o_447, e3]
          rw [ax_let, ax_w32 (by omega) (by omega)]
          exact hnext _ M3 ⟨by omega, ax_Kp e3 K' rfl, F3, RF_trans f' f3, HB_Win S B' (by omega) (by omega), by rw [← hs, ax_fo_s i1]⟩
        · intro H' m' ⟨i0, K', F', f', B', hs⟩
          rw [ax_fo_e (Int.le_refl _)] at hs
          subst hs
          have e91 := m_91 (d := d) K' (RF_mB mB5 f') (fun m m0 m1 => by rw [FH_196 F' m0 m1]; exact (B'.2.1 m m0 m1).2.2)
          rw [(RF_ME E5 f').1.2.1] at e91
          show ax_ok (am_Ex d 303 37 _ _ _) _
          rw [aq_303_37]
          simp (disch := first | assumption | omega) only [ax_gt, ax_gi, Option.bind_some, ax_gbl, ax_gb2, ax_gd, Int.reduceEq, Int.reduceNe, Int.reduceLT, Int.reduceLE, Int.reduceAdd, Int.reduceSub, Int.reduceMul, Int.reduceNeg, reduceIte, ite_true, ite_false, true_and, and_true, false_and, and_false, true_or, or_true, false_or, or_false, not_true_eq_false, not_false_eq_true, and_self, or_self, eq_self, ite_self, decide_true, decide_false, Bool.true_and, Bool.and_true, Bool.and_self, Bool.false_and, Int.add_zero, Int.zero_add, ax_rw, if_pos, if_neg, ax_o_447, Int.lt_irrefl, e91]
          exact ax_ok_some ⟨ax_fo_congr _ _ _ fun m x m0 m1 => by rw [FH_196 F' m0 (by omega)], M5, k5, F', f'⟩
    · have gM : am_rd M 2 6 = am_rd M 448 1 := g.1.2.1
      have gT : am_rd M 2 5 = am_rd M 448 0 := g.1.1
      refine ⟨-1, M, M, ?_, ?_, a⟩
      · rw [aq_290]
        simp (disch := first | assumption | omega) only [ax_gt, ax_gi, Option.bind_some, ax_gbl, ax_gb2, ax_gd, Int.reduceEq, Int.reduceNe, Int.reduceLT, Int.reduceLE, Int.reduceAdd, Int.reduceSub, Int.reduceMul, Int.reduceNeg, reduceIte, ite_true, ite_false, true_and, and_true, false_and, and_false, true_or, or_true, false_or, or_false, not_true_eq_false, not_false_eq_true, and_self, or_self, eq_self, ite_self, decide_true, decide_false, Bool.true_and, Bool.and_true, Bool.and_self, Bool.false_and, Int.add_zero, Int.zero_add, ax_rw, if_pos, if_neg, ax_o_1, kr_1_0, kr_1_1, kr_1_2, kr_1_3, kr_1_4, kr_1_5, kr_1_6, kr_1_7, kr_1_9, kr_1_10, kr_1_11, kr_1_12, kr_1_13, kr_1_14, ax_a_419, ax_o_2, kr_2_0, kr_2_1, kr_2_2, kr_2_3, kr_2_4, ax_a_3, ax_a_4, ax_a_5, ax_a_6, ax_a_7, gM, gT]
        all_goals ((repeat' split) <;> first | rfl | (exfalso; omega))
      · rw [aq_303]
        simp (disch := first | assumption | omega) only [ax_gt, ax_gi, Option.bind_some, ax_gbl, ax_gb2, ax_gd, Int.reduceEq, Int.reduceNe, Int.reduceLT, Int.reduceLE, Int.reduceAdd, Int.reduceSub, Int.reduceMul, Int.reduceNeg, reduceIte, ite_true, ite_false, true_and, and_true, false_and, and_false, true_or, or_true, false_or, or_false, not_true_eq_false, not_false_eq_true, and_self, or_self, eq_self, ite_self, decide_true, decide_false, Bool.true_and, Bool.and_true, Bool.and_self, Bool.false_and, Int.add_zero, Int.zero_add, ax_rw, if_pos, if_neg, ax_o_447, ax_a_448, kr_447_0, m_64, ax_b0, h1]
        all_goals ((repeat' split) <;> first | rfl | (exfalso; omega))
  · refine ⟨-1, M, M, ?_, ?_, a⟩
    · rw [aq_290]
      (repeat' split) <;> first | rfl | (exfalso; omega)
    · rw [aq_303]
      simp (disch := first | assumption | omega) only [ax_gt, ax_gi, Option.bind_some, ax_gbl, ax_gb2, ax_gd, Int.reduceEq, Int.reduceNe, Int.reduceLT, Int.reduceLE, Int.reduceAdd, Int.reduceSub, Int.reduceMul, Int.reduceNeg, reduceIte, ite_true, ite_false, true_and, and_true, false_and, and_false, true_or, or_true, false_or, or_false, not_true_eq_false, not_false_eq_true, and_self, or_self, eq_self, ite_self, decide_true, decide_false, Bool.true_and, Bool.and_true, Bool.and_self, Bool.false_and, Int.add_zero, Int.zero_add, m_64, ax_b0]
      all_goals ((repeat' split) <;> first | rfl | (exfalso; omega))
end
