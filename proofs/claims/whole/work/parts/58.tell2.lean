/-! man, done, halves, back -/
theorem CH_man {M M' : am_M} {h n : Int} {H H' : Int → Int} (a : CH M h n H) (n0 : 0 ≤ n) (n1 : n < 6) (e : ∀ c i, h ≤ c → c ≤ h + 5 → am_rd M' c i = am_rd M c i) (e1 : H' (150 + n) = -1) (e2 : ∀ j, 0 ≤ j → j < 164 → j ≠ 150 + n → H' j = H j) : CH M' h (n + 1) H' := by
  obtain ⟨r1, r2, r3, r4, r5, r6, r7, r8, r9⟩ := CH_same a e
  refine ⟨fun j h0 h1 => by rw [e2 j (by omega) (by omega) (by omega)]; exact r1 j h0 h1, fun j h0 h1 => by rw [e2 _ (by omega) (by omega) (by omega)]; exact r2 j h0 h1, fun j h0 h1 => by rw [e2 _ (by omega) (by omega) (by omega)]; exact r3 j h0 h1, fun j h0 h1 => by rw [e2 _ (by omega) (by omega) (by omega)]; exact r4 j h0 h1, fun j h0 h1 => ?_, r6, fun j h0 h1 => by rw [e2 _ (by omega) (by omega) (by omega)]; exact r7 j h0 h1, by rw [e2 _ (by omega) (by omega) (by omega)]; exact r8, by rw [e2 _ (by omega) (by omega) (by omega)]; exact r9⟩
  rw [r5 j h0 h1]
  by_cases q : j = n
  · rw [if_neg (by omega), if_pos (by omega), q, e1]
  · by_cases l : j < n
    · rw [if_pos l, if_pos (by omega), e2 _ (by omega) (by omega) (by omega)]
    · rw [if_neg l, if_neg (by omega)]
theorem HB_man {T n : Int} {H H' : Int → Int} (a : HB T H) (n0 : 0 ≤ n) (n1 : n < 6) (e1 : H' (150 + n) = -1) (e2 : ∀ j, 0 ≤ j → j < 164 → j ≠ 150 + n → H' j = H j) : HB T H' := by
  refine HB_congr (HB_tie (v := -1) a n0 n1 (by omega) (by omega)) fun j j0 j1 => ?_
  unfold hu
  by_cases q : j = 150 + n
  · rw [if_pos q, q, e1]
  · rw [if_neg q]; exact e2 j j0 j1 q
section
variable {M : am_M} {d : Nat}
theorem op_man (a : RR M) {w : Int} : OP d M 137 147 [(0, w)] := by
  have hK := a.1
  have gB := RR_gB a
  have mB := RR_mB a
  have aa := a
  obtain ⟨-, ⟨⟨⟨g1, g2, g3, g4, g5, g6, g7⟩, g8, g9, g10, g11, g12, g13, g14⟩, ⟨⟨b1, b2, b3, b4, b5, b6, b7, b8⟩, b9, b10, b11, b12, b13, b14⟩, ⟨p1, p2, p3⟩, q1, q2, q3⟩, rp, rt, rx⟩ := aa
  simp only [Int.reduceEq, Int.reduceNe, Int.reduceLT, Int.reduceLE, Int.reduceAdd, Int.reduceSub, Int.reduceMul, Int.reduceNeg, reduceIte, ite_true, ite_false, true_and, and_true, false_and, and_false, true_or, or_true, false_or, or_false, not_true_eq_false, not_false_eq_true, and_self, or_self, eq_self, ite_self, decide_true, decide_false, Bool.true_and, Bool.and_true, Bool.and_self, Bool.false_and, Int.add_zero, Int.zero_add] at g8 g9 g10 g11 g12
  have e14 := fun d => c_14 (d := d) (w := w) hK gB
  rw [g2] at e14
  generalize hn : am_rd M 448 1 = n at *
  by_cases h1 : 0 ≤ w ∧ w ≤ 9
  · by_cases h2 : n = 6
    · obtain ⟨r, M2, e2, k2⟩ := m_147 (d := d) (w := w) hK mB
      rw [hn, if_pos (Or.inr h2)] at k2
      obtain ⟨rfl, rfl⟩ := k2
      refine ⟨-1, M2, M2, ?_, e2, a⟩
      rw [aq_137]; simp (disch := first | assumption | omega) only [ax_gt, ax_gi, Option.bind_some, ax_gbl, ax_gb2, ax_gd, Int.reduceEq, Int.reduceNe, Int.reduceLT, Int.reduceLE, Int.reduceAdd, Int.reduceSub, Int.reduceMul, Int.reduceNeg, reduceIte, ite_true, ite_false, true_and, and_true, false_and, and_false, true_or, or_true, false_or, or_false, not_true_eq_false, not_false_eq_true, and_self, or_self, eq_self, ite_self, decide_true, decide_false, Bool.true_and, Bool.and_true, Bool.and_self, Bool.false_and, Int.add_zero, Int.zero_add, ax_rw, if_pos, if_neg, ax_o_1, kr_1_0, kr_1_1, kr_1_2, kr_1_3, kr_1_4, kr_1_5, kr_1_6, kr_1_7, kr_1_9, kr_1_10, kr_1_11, kr_1_12, kr_1_13, kr_1_14, ax_a_419, ax_o_2, kr_2_0, kr_2_1, kr_2_2, kr_2_3, kr_2_4, ax_a_3, ax_a_4, ax_a_5, ax_a_6, ax_a_7, e14]
    · have K1 : ax_K (am_wr (am_wr M 5 n w) 2 6 (n + 1)) := ax_Kw (ax_Kw hK rfl) rfl
      have mB1 : mb_B (am_wr (am_wr M 5 n w) 2 6 (n + 1)) := mB
      obtain ⟨r, M2, e2, k2⟩ := m_147 (d := d) (w := w) K1 mB1
      have K2 := ax_Kp e2 K1 rfl
      have t1 : am_rd (am_wr (am_wr M 5 n w) 2 6 (n + 1)) 448 1 = n := hn
      rw [t1, if_neg (by omega)] at k2
      obtain ⟨hr, k3⟩ := k2
      have o1 : ∀ i, am_rd (am_wr (am_wr M 5 n w) 2 6 (n + 1)) 448 i = am_rd M 448 i := fun i => by simp (disch := first | assumption | omega) only [Int.reduceEq, Int.reduceNe, Int.reduceLT, Int.reduceLE, Int.reduceAdd, Int.reduceSub, Int.reduceMul, Int.reduceNeg, reduceIte, ite_true, ite_false, true_and, and_true, false_and, and_false, true_or, or_true, false_or, or_false, not_true_eq_false, not_false_eq_true, and_self, or_self, eq_self, ite_self, decide_true, decide_false, Bool.true_and, Bool.and_true, Bool.and_self, Bool.false_and, Int.add_zero, Int.zero_add, ax_rw, if_pos, if_neg]
      refine ⟨n, _, M2, ?_, by rw [e2, hr], ?_⟩
      · rw [aq_137]; simp (disch := first | assumption | omega) only [ax_gt, ax_gi, Option.bind_some, ax_gbl, ax_gb2, ax_gd, Int.reduceEq, Int.reduceNe, Int.reduceLT, Int.reduceLE, Int.reduceAdd, Int.reduceSub, Int.reduceMul, Int.reduceNeg, reduceIte, ite_true, ite_false, true_and, and_true, false_and, and_false, true_or, or_true, false_or, or_false, not_true_eq_false, not_false_eq_true, and_self, or_self, eq_self, ite_self, decide_true, decide_false, Bool.true_and, Bool.and_true, Bool.and_self, Bool.false_and, Int.add_zero, Int.zero_add, ax_rw, if_pos, if_neg, ax_o_1, kr_1_0, kr_1_1, kr_1_2, kr_1_3, kr_1_4, kr_1_5, kr_1_6, kr_1_7, kr_1_9, kr_1_10, kr_1_11, kr_1_12, kr_1_13, kr_1_14, ax_a_419, ax_o_2, kr_2_0, kr_2_1, kr_2_2, kr_2_3, kr_2_4, ax_a_3, ax_a_4, ax_a_5, ax_a_6, ax_a_7, e14]
      · have o : ∀ c i, c ≠ 448 → (c < 2 ∨ 7 < c) → am_rd M2 c i = am_rd M c i := fun c i h3 h4 => by
          rw [k3, if_neg h3]; simp (disch := first | assumption | omega) only [Int.reduceEq, Int.reduceNe, Int.reduceLT, Int.reduceLE, Int.reduceAdd, Int.reduceSub, Int.reduceMul, Int.reduceNeg, reduceIte, ite_true, ite_false, true_and, and_true, false_and, and_false, true_or, or_true, false_or, or_false, not_true_eq_false, not_false_eq_true, and_self, or_self, eq_self, ite_self, decide_true, decide_false, Bool.true_and, Bool.and_true, Bool.and_self, Bool.false_and, Int.add_zero, Int.zero_add, ax_rw, if_pos, if_neg]
        have row : ∀ i, i ≠ 1 → i ≠ 26 + n → i ≠ 210 + n → ¬ ((390 ≤ i ∧ i < 390 + 164 * am_rd M 448 5) ∧ (i - 390) % 164 = n) → am_rd M2 448 i = am_rd M 448 i := fun i h3 h4 h5 h6 => by
          rw [k3, if_pos rfl, if_neg h3, if_neg h4, if_neg h5, o1 5, if_neg h6, o1]
        have n1 : am_rd M2 448 1 = n + 1 := by rw [k3, if_pos rfl, if_pos rfl]
        have r210 : am_rd M2 448 (210 + n) = -1 := by rw [k3, if_pos rfl, if_neg (by omega), if_neg (by omega), if_pos rfl]
        have m26 : am_rd M2 448 (26 + n) = w := by rw [k3, if_pos rfl, if_neg (by omega), if_pos rfl]
        have e0 := row 0 (by omega) (by omega) (by omega) (by omega)
        have e5 := row 5 (by omega) (by omega) (by omega) (by omega)
        have gc : ∀ i, (i < 7 ∧ i ≠ 6) ∨ 7 ≤ i → am_rd M2 2 i = am_rd M 2 i := fun i h => by
          rw [k3, if_neg (by omega)]; simp (disch := first | assumption | omega) only [Int.reduceEq, Int.reduceNe, Int.reduceLT, Int.reduceLE, Int.reduceAdd, Int.reduceSub, Int.reduceMul, Int.reduceNeg, reduceIte, ite_true, ite_false, true_and, and_true, false_and, and_false, true_or, or_true, false_or, or_false, not_true_eq_false, not_false_eq_true, and_self, or_self, eq_self, ite_self, decide_true, decide_false, Bool.true_and, Bool.and_true, Bool.and_self, Bool.false_and, Int.add_zero, Int.zero_add, ax_rw, if_pos, if_neg]
        have g26 : am_rd M2 2 6 = n + 1 := by rw [k3, if_neg (by omega)]; simp (disch := first | assumption | omega) only [Int.reduceEq, Int.reduceNe, Int.reduceLT, Int.reduceLE, Int.reduceAdd, Int.reduceSub, Int.reduceMul, Int.reduceNeg, reduceIte, ite_true, ite_false, true_and, and_true, false_and, and_false, true_or, or_true, false_or, or_false, not_true_eq_false, not_false_eq_true, and_self, or_self, eq_self, ite_self, decide_true, decide_false, Bool.true_and, Bool.and_true, Bool.and_self, Bool.false_and, Int.add_zero, Int.zero_add, ax_rw, if_pos, if_neg]
        have garr : ∀ c i, 3 ≤ c → c ≤ 7 → ¬ (c = 5 ∧ i = n) → am_rd M2 c i = am_rd M c i := fun c i h3 h4 h5 => by
          rw [k3, if_neg (by omega)]; simp (disch := first | assumption | omega) only [Int.reduceEq, Int.reduceNe, Int.reduceLT, Int.reduceLE, Int.reduceAdd, Int.reduceSub, Int.reduceMul, Int.reduceNeg, reduceIte, ite_true, ite_false, true_and, and_true, false_and, and_false, true_or, or_true, false_or, or_false, not_true_eq_false, not_false_eq_true, and_self, or_self, eq_self, ite_self, decide_true, decide_false, Bool.true_and, Bool.and_true, Bool.and_self, Bool.false_and, Int.add_zero, Int.zero_add, ax_rw, if_pos, if_neg]
        have g5n : am_rd M2 5 n = w := by rw [k3, if_neg (by omega)]; simp (disch := first | assumption | omega) only [Int.reduceEq, Int.reduceNe, Int.reduceLT, Int.reduceLE, Int.reduceAdd, Int.reduceSub, Int.reduceMul, Int.reduceNeg, reduceIte, ite_true, ite_false, true_and, and_true, false_and, and_false, true_or, or_true, false_or, or_false, not_true_eq_false, not_false_eq_true, and_self, or_self, eq_self, ite_self, decide_true, decide_false, Bool.true_and, Bool.and_true, Bool.and_self, Bool.false_and, Int.add_zero, Int.zero_add, ax_rw, if_pos, if_neg]
        refine ⟨K2, ⟨⟨⟨?_, ?_, ?_, ?_, ?_, ?_, ?_⟩, ?_, ?_, ?_, ?_, ?_, ?_, ?_⟩, ⟨⟨?_, ?_, ?_, ?_, ?_, ?_, ?_, ?_⟩, ?_, ?_, ?_, ?_, ?_, ?_⟩, ⟨?_, ?_, ?_⟩, ?_, ?_, ?_⟩, ?_, ?_, ?_⟩
        · rw [gc 5 (by omega), e0]; exact g1
        · rw [g26, n1]
        · rw [gc 7 (by omega), row 2 (by omega) (by omega) (by omega) (by omega)]; exact g3
        · rw [gc 11 (by omega), row 3 (by omega) (by omega) (by omega) (by omega)]; exact g4
        · rw [gc 12 (by omega), row 4 (by omega) (by omega) (by omega) (by omega)]; exact g5
        · rw [gc 8 (by omega), row 6 (by omega) (by omega) (by omega) (by omega)]; exact g6
        · rw [gc 10 (by omega), row 7 (by omega) (by omega) (by omega) (by omega)]; exact g7
        · intro j j0 j1
          rw [garr _ _ (by omega) (by omega) (by omega), row _ (by omega) (by omega) (by omega) (by omega)]; exact g8 j j0 j1
        · intro j j0 j1
          rw [garr _ _ (by omega) (by omega) (by omega), row _ (by omega) (by omega) (by omega) (by omega)]; exact g9 j j0 j1
        · intro j j0 j1
          by_cases e : j = n
          · rw [e, show (2 : Int) + 3 = 5 from rfl, g5n, m26]
          · rw [garr _ _ (by omega) (by omega) (by omega), row _ (by omega) (by omega) (by omega) (by omega)]; exact g10 j j0 j1
        · intro j j0 j1
          rw [garr _ _ (by omega) (by omega) (by omega), row _ (by omega) (by omega) (by omega) (by omega)]; exact g11 j j0 j1
        · intro j j0 j1
          rw [garr _ _ (by omega) (by omega) (by omega), row _ (by omega) (by omega) (by omega) (by omega)]; exact g12 j j0 j1
        · intro j j0 j1
          rw [gc 9 (by omega), row _ (by omega) (by omega) (by omega) (by omega)]; exact g13 j j0 j1
        · rw [gc 9 (by omega)]; exact g14
        · rw [e0]; exact b1
        · rw [n1]; omega
        · rw [row 2 (by omega) (by omega) (by omega) (by omega)]; exact b3
        · rw [row 3 (by omega) (by omega) (by omega) (by omega)]; exact b4
        · rw [row 4 (by omega) (by omega) (by omega) (by omega), row 3 (by omega) (by omega) (by omega) (by omega)]; exact b5
        · rw [e5]; exact b6
        · rw [row 6 (by omega) (by omega) (by omega) (by omega)]; exact b7
        · rw [row 7 (by omega) (by omega) (by omega) (by omega)]; exact b8
        · intro j j0 j1
          rw [row _ (by omega) (by omega) (by omega) (by omega)]; exact b9 j j0 j1
        · intro j j0 j1
          rw [row _ (by omega) (by omega) (by omega) (by omega), e0]; exact b10 j j0 j1
        · intro j h3 j0 j1
          rw [row _ (by omega) (by omega) (by omega) (by omega)]; rw [e0] at h3; exact b11 j h3 j0 j1
        · intro j j0 j1
          by_cases e : j = n
          · rw [e, m26]; exact h1
          · rw [row _ (by omega) (by omega) (by omega) (by omega)]; exact b12 j j0 j1
        · intro j j0 j1
          rw [row _ (by omega) (by omega) (by omega) (by omega), e0]; exact b13 j j0 j1
        · intro j j0 j1
          rw [row _ (by omega) (by omega) (by omega) (by omega), e0, row 6 (by omega) (by omega) (by omega) (by omega)]; exact b14 j j0 j1
        · rw [n1]
          refine CH_man p1 b2.1 (by omega) (fun c i h3 h4 => o c i (by omega) (by omega)) ?_ fun j j0 j1 hj => ?_
          · show am_rd M2 448 (60 + (150 + n)) = -1
            rw [show 60 + (150 + n) = 210 + n by omega]; exact r210
          · exact row _ (by omega) (by omega) (by omega) (by omega)
        · rw [e0]
          refine HB_man p2 b2.1 (by omega : n < 6) ?_ fun j j0 j1 hj => ?_
          · show am_rd M2 448 (60 + (150 + n)) = -1
            rw [show 60 + (150 + n) = 210 + n by omega]; exact r210
          · exact row _ (by omega) (by omega) (by omega) (by omega)
        · rw [row 222 (by omega) (by omega) (by omega) (by omega)]; exact p3
        · rw [o 55 1 (by omega) (by omega)]; exact q1
        · rw [o 55 2 (by omega) (by omega), e5]; exact q2
        · intro k k0 kk
          rw [e5] at kk
          obtain ⟨d1, d2, d3⟩ := q3 k k0 kk
          rw [o 55 1 (by omega) (by omega), e5, n1, e0, row (402 + 164 * k) (by omega) (by omega) (by omega) (by omega)]
          have f1 : fl M2 448 (240 + 164 * k) (150 + n) = -1 := by
            show am_rd M2 448 (240 + 164 * k + (150 + n)) = -1
            rw [k3, if_pos rfl, if_neg (by omega), if_neg (by omega), if_neg (by omega), o1 5, if_pos (by omega)]
          have f2 : ∀ j, 0 ≤ j → j < 164 → j ≠ 150 + n → fl M2 448 (240 + 164 * k) j = fl M 448 (240 + 164 * k) j := fun j j0 j1 hj => row _ (by omega) (by omega) (by omega) (by omega)
          exact ⟨CH_man d1 b2.1 (by omega) (fun c i h3 h4 => o c i (by omega) (by omega)) f1 f2, HB_man d2 b2.1 (by omega : n < 6) f1 f2, d3⟩
        · exact RP_same rp (fun x i h => o x i (by omega) (by omega)) (fun i _ _ => o 449 i (by omega) (by omega))
        · exact RT_same rt (fun x i h => o x i (by omega) (by omega))
        · refine RX_same rx (fun x i h => ?_)
          by_cases h8 : x = 448
          · have : i = 3 := by omega
            subst h8 this
            exact row 3 (by omega) (by omega) (by omega) (by omega)
          · exact o x i h8 (by omega)
  · obtain ⟨r, M2, e2, k2⟩ := m_147 (d := d) (w := w) hK mB
    rw [if_pos (Or.inl h1)] at k2
    obtain ⟨rfl, rfl⟩ := k2
    refine ⟨-1, M2, M2, ?_, e2, a⟩
    rw [aq_137]
    simp only [aq_137_6]
    (repeat' split) <;> first | rfl | (exfalso; omega)
theorem dn_B : ((List.range 256).all fun x => (List.range 8).all fun D => (List.range 8).all fun j =>
    decide (am_and (am_shr (am_or (x : Int) (am_shl 1 (D : Int))) (j : Int)) 1 = (if j = D then 1 else am_and (am_shr (x : Int) (j : Int)) 1)) && decide (am_and (am_shr (am_and (x : Int) (am_xor (am_shl 1 (D : Int)) (-1))) (j : Int)) 1 = (if j = D then 0 else am_and (am_shr (x : Int) (j : Int)) 1)) && decide (0 ≤ am_and (x : Int) (am_xor (am_shl 1 (D : Int)) (-1))) && decide (am_and (x : Int) (am_xor (am_shl 1 (D : Int)) (-1)) < 256)) = true := by decide +kernel
theorem dn {x D j : Int} (x0 : 0 ≤ x) (x1 : x < 256) (D0 : 0 ≤ D) (D1 : D < 8) (j0 : 0 ≤ j) (j1 : j < 8) : am_and (am_shr (am_or x (am_shl 1 D)) j) 1 = (if j = D then 1 else am_and (am_shr x j) 1) ∧ am_and (am_shr (am_and x (am_xor (am_shl 1 D) (-1))) j) 1 = (if j = D then 0 else am_and (am_shr x j) 1) ∧ 0 ≤ am_and x (am_xor (am_shl 1 D) (-1)) ∧ am_and x (am_xor (am_shl 1 D) (-1)) < 256 := by
  have h := List.all_eq_true.mp (List.all_eq_true.mp (List.all_eq_true.mp dn_B x.toNat (List.mem_range.mpr (by omega))) D.toNat (List.mem_range.mpr (by omega))) j.toNat (List.mem_range.mpr (by omega))
  simp only [Int.toNat_of_nonneg x0, Int.toNat_of_nonneg D0, Int.toNat_of_nonneg j0, Bool.and_eq_true, decide_eq_true_eq] at h
  obtain ⟨⟨⟨h1, h2⟩, h3⟩, h4⟩ := h
  have e : (j.toNat = D.toNat) ↔ (j = D) := by omega
  simp only [e] at h1 h2
  exact ⟨h1, h2, h3, h4⟩
theorem op_back (a : RR M) {x : Int} (hx : -2147483648 ≤ x ∧ x < 2147483648) : OP d M 141 231 [(0, x)] := by
  have hK := a.1
  have gB := RR_gB a
  have mB := RR_mB a
  have bS := a.2.1.2.1.1.2.2.1
  have bT := a.2.1.2.1.1.1
  have e12 := fun d => c_12 (d := d) (x := x) hK gB
  rw [ax_w32 hx.1 hx.2, a.2.1.1.1.2.2.1] at e12
  have pw := ax_pw bS.1 (by omega : am_rd M 448 2 ≤ 8)
  have run201 : ∀ d, am_Call d 201 [(2, 447), (0, x)] M = am_Call d 201 [(2, 447), (0, x)] M := fun _ => rfl
  by_cases h1 : 0 ≤ x ∧ x < ((2 ^ (am_rd M 448 2).toNat : Nat) : Int)
  · have e20 := fun d => c_20' (d := d) (x := x) a
    have fr : 0 ≤ ax_fo (fun i s => if am_and (am_shr x i) 1 = 1 then am_or s (am_rd M 448 (32 + i)) else am_or s 0) (am_rd M 448 2 - 0).toNat 0 0 ∧ ax_fo (fun i s => if am_and (am_shr x i) 1 = 1 then am_or s (am_rd M 448 (32 + i)) else am_or s 0) (am_rd M 448 2 - 0).toNat 0 0 < ((2 ^ (am_rd M 448 0).toNat : Nat) : Int) := by
      have p8 := pw8 bT.1 bT.2
      have p1 : 1 ≤ (2 ^ (am_rd M 448 0).toNat : Nat) := Nat.one_le_two_pow
      refine ax_fo_inv (P := fun _ s => 0 ≤ s ∧ s < ((2 ^ (am_rd M 448 0).toNat : Nat) : Int)) _ _ _ (fun i s i0 i1 hs => ?_) (by omega)
      have bs := a.2.1.2.1.2.2.2.2.2.1 i i0 (by omega)
      split
      · rw [ax_or_nn hs.1 (by omega) bs.1 (by omega)]
        have := Nat.or_lt_two_pow (n := (am_rd M 448 0).toNat) (show s.toNat < 2 ^ (am_rd M 448 0).toNat by omega) (show (am_rd M 448 (32 + i)).toNat < 2 ^ (am_rd M 448 0).toNat by omega)
        omega
      · rw [ax_or0 hs.1 (by omega)]; exact hs
    have e201 : ∀ d, am_Call d 201 [(2, 447), (0, x)] M = some (bk (fun t => am_rd M 448 (18 + t)) (am_rd M 448 0) (ax_fo (fun i s => if am_and (am_shr x i) 1 = 1 then am_or s (am_rd M 448 (32 + i)) else am_or s 0) (am_rd M 448 2 - 0).toNat 0 0), M) := by
      intro d
      rw [aq_201]
      rw [← bk_8 bT.1 bT.2 (RR_L a) fr.1 fr.2]
      refine ax_loop (X := fun k s => am_Ex d 201 5 [(2, 447), (0, x), (0, s), (0, k)] [] M) (E := fun s => some (ax_fo (fun _ s => rd1 (fun t => am_rd M 448 (18 + t)) (am_rd M 448 0) s) ((8 : Int) - 0).toNat 0 s, M)) (n := am_rd M 448 2) (fun k _ => 0 ≤ k) ?_ ?_ _ _ _ (by omega) (by omega)
      · intro k s k0 k1
        constructor
        · show am_Ex d 201 5 _ _ _ = _
          rw [aq_201_5]
          simp (disch := first | assumption | omega) only [ax_gt, ax_gi, Option.bind_some, ax_gbl, ax_gb2, ax_gd, Int.reduceEq, Int.reduceNe, Int.reduceLT, Int.reduceLE, Int.reduceAdd, Int.reduceSub, Int.reduceMul, Int.reduceNeg, reduceIte, ite_true, ite_false, true_and, and_true, false_and, and_false, true_or, or_true, false_or, or_false, not_true_eq_false, not_false_eq_true, and_self, or_self, eq_self, ite_self, decide_true, decide_false, Bool.true_and, Bool.and_true, Bool.and_self, Bool.false_and, Int.add_zero, Int.zero_add, ax_rw, if_pos, if_neg, ax_w32, ax_let, ax_o_447, ax_a_448, kr_447_0, m_65, ax_b0, ite_not]
          split <;> rfl
        · omega
      · intro s k0
        show am_Ex d 201 5 _ _ _ = _
        have e159 := fun d => m_159 (d := d) (x := s) hK mB
        rw [aq_201_5]
        simp (disch := first | assumption | omega) only [ax_gt, ax_gi, Option.bind_some, ax_gbl, ax_gb2, ax_gd, Int.reduceEq, Int.reduceNe, Int.reduceLT, Int.reduceLE, Int.reduceAdd, Int.reduceSub, Int.reduceMul, Int.reduceNeg, reduceIte, ite_true, ite_false, true_and, and_true, false_and, and_false, true_or, or_true, false_or, or_false, not_true_eq_false, not_false_eq_true, and_self, or_self, eq_self, ite_self, decide_true, decide_false, Bool.true_and, Bool.and_true, Bool.and_self, Bool.false_and, Int.add_zero, Int.zero_add, ax_rw, if_pos, if_neg, ax_o_447, ax_a_448, kr_447_0, Int.lt_irrefl, e159]
    refine ⟨bk (fun t => am_rd M 448 (18 + t)) (am_rd M 448 0) (ax_fo (fun i s => if am_and (am_shr x i) 1 = 1 then am_or s (am_rd M 448 (32 + i)) else am_or s 0) (am_rd M 448 2 - 0).toNat 0 0), M, M, ?_, ?_, a⟩
    · rw [aq_141]; simp (disch := first | assumption | omega) only [ax_gt, ax_gi, Option.bind_some, ax_gbl, ax_gb2, ax_gd, Int.reduceEq, Int.reduceNe, Int.reduceLT, Int.reduceLE, Int.reduceAdd, Int.reduceSub, Int.reduceMul, Int.reduceNeg, reduceIte, ite_true, ite_false, true_and, and_true, false_and, and_false, true_or, or_true, false_or, or_false, not_true_eq_false, not_false_eq_true, and_self, or_self, eq_self, ite_self, decide_true, decide_false, Bool.true_and, Bool.and_true, Bool.and_self, Bool.false_and, Int.add_zero, Int.zero_add, ax_rw, if_pos, if_neg, ax_o_1, kr_1_0, kr_1_1, kr_1_2, kr_1_3, kr_1_4, kr_1_5, kr_1_6, kr_1_7, kr_1_9, kr_1_10, kr_1_11, kr_1_12, kr_1_13, kr_1_14, ax_a_419, ax_o_2, kr_2_0, kr_2_1, kr_2_2, kr_2_3, kr_2_4, ax_a_3, ax_a_4, ax_a_5, ax_a_6, ax_a_7, e12, ax_b0, h1, e20]
    · rw [aq_231]
      simp (disch := first | assumption | omega) only [ax_gt, ax_gi, Option.bind_some, ax_gbl, ax_gb2, ax_gd, Int.reduceEq, Int.reduceNe, Int.reduceLT, Int.reduceLE, Int.reduceAdd, Int.reduceSub, Int.reduceMul, Int.reduceNeg, reduceIte, ite_true, ite_false, true_and, and_true, false_and, and_false, true_or, or_true, false_or, or_false, not_true_eq_false, not_false_eq_true, and_self, or_self, eq_self, ite_self, decide_true, decide_false, Bool.true_and, Bool.and_true, Bool.and_self, Bool.false_and, Int.add_zero, Int.zero_add, ax_o_447, ax_a_448, kr_447_0, pw.1, m_64, ax_b0, e201]
      all_goals ((repeat' split) <;> first | rfl | (exfalso; omega))
  · refine ⟨-1, M, M, ?_, ?_, a⟩
    · rw [aq_141]; simp (disch := first | assumption | omega) only [ax_gt, ax_gi, Option.bind_some, ax_gbl, ax_gb2, ax_gd, Int.reduceEq, Int.reduceNe, Int.reduceLT, Int.reduceLE, Int.reduceAdd, Int.reduceSub, Int.reduceMul, Int.reduceNeg, reduceIte, ite_true, ite_false, true_and, and_true, false_and, and_false, true_or, or_true, false_or, or_false, not_true_eq_false, not_false_eq_true, and_self, or_self, eq_self, ite_self, decide_true, decide_false, Bool.true_and, Bool.and_true, Bool.and_self, Bool.false_and, Int.add_zero, Int.zero_add, ax_rw, if_pos, if_neg, ax_o_1, kr_1_0, kr_1_1, kr_1_2, kr_1_3, kr_1_4, kr_1_5, kr_1_6, kr_1_7, kr_1_9, kr_1_10, kr_1_11, kr_1_12, kr_1_13, kr_1_14, ax_a_419, ax_o_2, kr_2_0, kr_2_1, kr_2_2, kr_2_3, kr_2_4, ax_a_3, ax_a_4, ax_a_5, ax_a_6, ax_a_7, e12, ax_b0, h1]
    · rw [aq_231]
      simp (disch := first | assumption | omega) only [ax_gt, ax_gi, Option.bind_some, ax_gbl, ax_gb2, ax_gd, Int.reduceEq, Int.reduceNe, Int.reduceLT, Int.reduceLE, Int.reduceAdd, Int.reduceSub, Int.reduceMul, Int.reduceNeg, reduceIte, ite_true, ite_false, true_and, and_true, false_and, and_false, true_or, or_true, false_or, or_false, not_true_eq_false, not_false_eq_true, and_self, or_self, eq_self, ite_self, decide_true, decide_false, Bool.true_and, Bool.and_true, Bool.and_self, Bool.false_and, Int.add_zero, Int.zero_add, ax_o_447, ax_a_448, kr_447_0, pw.1, m_64, ax_b0]
      all_goals ((repeat' split) <;> first | rfl | (exfalso; omega))
end
