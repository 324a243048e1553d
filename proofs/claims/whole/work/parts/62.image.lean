/-! image, again -/
section
variable {M : am_M} {d : Nat}
theorem gCp_post {M' M2 : am_M} {g g2 : Int} (C : gCp M M' g g2) (e : ∀ c i, g ≤ c → c ≤ g + 5 → am_rd M2 c i = am_rd M' c i) : gCp M M2 g g2 := by
  obtain ⟨c1, c2, c3⟩ := C
  refine ⟨fun j j0 j1 => ?_, fun j j0 j1 => ?_, fun i i0 i1 => ?_⟩
  · obtain ⟨a, b, c⟩ := c1 j j0 j1
    exact ⟨(e _ _ (by omega) (by omega)).trans a, (e _ _ (by omega) (by omega)).trans b, (e _ _ (by omega) (by omega)).trans c⟩
  · obtain ⟨a, b⟩ := c2 j j0 j1
    exact ⟨(e _ _ (by omega) (by omega)).trans a, (e _ _ (by omega) (by omega)).trans b⟩
  · exact (e _ _ (by omega) (by omega)).trans (c3 i i0 i1)
theorem RP_copy {N : am_M} {g h s g2 h2 s2 c c2 : Int} (a : RP M M g2 h2 s2 c2) (C1 : gCp M N g g2) (C2 : hCp M N h h2) (C3 : ∀ k, 0 ≤ k → k < 30 → hCp M N (s + 2 + 6 * k) (s2 + 2 + 6 * k)) (e1 : am_rd N s 1 = am_rd M s2 1) (e2 : am_rd N s 2 = am_rd M s2 2) (er : ∀ i, 0 ≤ i → i < 5160 → am_rd N c i = am_rd M c2 i) : RP N N g h s c := by
  obtain ⟨p1, p2, ⟨q1, q2, q3⟩, r1, r2, r3⟩ := a
  have h30 := p2.1.2.2.2.2.2.1
  refine ⟨RG_gCp C1 p1 er, BG_row p2 er, ⟨?_, ?_, ?_⟩, ?_, ?_, fun k k0 k1 => ?_⟩
  · rw [er 1 (by omega) (by omega)]
    exact CH_congr (hCp_CH C2 q1) fun j j0 j1 => (er (60 + j) (by omega) (by omega)).symm
  · rw [er 0 (by omega) (by omega)]
    exact HB_congr q2 fun j j0 j1 => er (60 + j) (by omega) (by omega)
  · rw [er 222 (by omega) (by omega)]; exact q3
  · rw [e1]; exact r1
  · rw [e2, er 5 (by omega) (by omega)]; exact r2
  · rw [er 5 (by omega) (by omega)] at k1
    rw [e1, er 5 (by omega) (by omega), er 1 (by omega) (by omega), er 0 (by omega) (by omega), er (402 + 164 * k) (by omega) (by omega)]
    obtain ⟨d1, d2, d3⟩ := r3 k k0 k1
    exact ⟨CH_congr (hCp_CH (C3 _ (Int.emod_nonneg _ (by omega)) (Int.emod_lt_of_pos _ (by omega))) d1) fun j j0 j1 => (er (240 + 164 * k + j) (by omega) (by omega)).symm, HB_congr d2 fun j j0 j1 => er (240 + 164 * k + j) (by omega) (by omega), d3⟩
theorem RX_le {N : am_M} (a : RX M) (h1 : am_rd N 449 3 ≤ am_rd N 448 3) (h2 : am_rd N 448 3 ≤ am_rd M 448 3) (e : ∀ x i, (14 ≤ x ∧ x ≤ 38) ∨ (451 ≤ x ∧ x ≤ 458) → am_rd N x i = am_rd M x i) : RX N := by
  obtain ⟨a1, X, a2⟩ := a
  refine ⟨h1, X, fun t t0 t4 t1 => ?_⟩
  obtain ⟨b1, b2, b3⟩ := a2 t t0 t4 (by omega)
  exact ⟨XC_same b1 fun x i h1 h2 => e x i (by omega), XM_same b2 fun x i h1 h2 => e x i (by omega), b3⟩
/-- the night of the hands is the cell 222 -/
theorem RP_6 {g h s c : Int} (a : RP M M g h s c) : am_rd M h 6 = am_rd M c 222 := by
  obtain ⟨-, -, -, -, -, -, -, r8, -⟩ := a.2.2.1.1
  exact r8
theorem op_image (a : RR M) : OP d M 190 167 [] := by
  have hK := a.1
  obtain ⟨A, eA, KA, cA, fA⟩ := c_6 hK (show gn 43 from Or.inr rfl) (show gn 2 from Or.inl rfl) (by decide)
  obtain ⟨rB, B, eB, cB, fB⟩ := c_22 (d := d) KA (show hn 49 from rfl) (show hn 8 from rfl) (by decide)
  have KB := ax_Kp eB KA rfl
  obtain ⟨rC, C, eC, cC, c1, c2, fC⟩ := c_133 (d := d) (s := 237) (s2 := 55) KB (Or.inr ⟨rfl, rfl⟩)
  have KC := ax_Kp eC KB rfl
  obtain ⟨rN, N, eN, fN⟩ := m_67 (d := d) KC (o := 1) (Or.inr rfl)
  have KN := ax_Kp eN KC rfl
  have oN : ∀ c i, c ≠ 449 → am_rd N c i = am_rd C c i := fun c i h => by rw [fN, if_neg (by omega)]
  have eAB : ∀ c i, (c < 43 ∨ 54 < c) → am_rd B c i = am_rd M c i := fun c i h => (fB c i (by omega)).trans (fA c i (by omega))
  have eM : ∀ c i, (c < 43 ∨ 54 < c) → (c < 237 ∨ 418 < c) → c ≠ 449 → am_rd N c i = am_rd M c i := fun c i h1 h2 h3 => (oN c i h3).trans ((fC c i h2).trans (eAB c i h1))
  have er : ∀ i, 0 ≤ i → i < 5160 → am_rd N 449 i = am_rd M 448 i := fun i i0 i1 => by
    rw [fN, if_pos (by omega)]
    exact (fC 448 i (by omega)).trans (eAB 448 i (by omega))
  have P1 : RP N N 2 8 55 448 := RP_same a.2.1 (fun x i h => eM x i (by omega) (by omega) (by omega)) (fun i _ _ => eM 448 i (by omega) (by omega) (by omega))
  have P2 : RP N N 43 49 237 449 := by
    refine RP_copy a.2.1 (gCp_post cA fun c i h1 h2 => ?_) (hCp_pre (hCp_post cB fun c i h1 h2 => ?_) fun c i h1 h2 => ?_) (fun k k0 k1 => hCp_pre (hCp_post (cC k k0 k1) fun c i h1 h2 => ?_) fun c i h1 h2 => ?_) ?_ ?_ er
    · exact (oN c i (by omega)).trans ((fC c i (by omega)).trans (fB c i (by omega)))
    · exact (oN c i (by omega)).trans (fC c i (by omega))
    · exact fA c i (by omega)
    · exact oN c i (by omega)
    · exact eAB c i (by omega)
    · exact (oN 237 1 (by omega)).trans (c1.trans (eAB 55 1 (by omega)))
    · exact (oN 237 2 (by omega)).trans (c2.trans (eAB 55 2 (by omega)))
  have e6 : am_rd C 8 6 = am_rd N 448 222 := (oN 8 6 (by omega)).symm.trans (RP_6 P1)
  refine ⟨am_rd N 448 222, C, N, ?_, ?_, KN, P1, P2, ?_, ?_⟩
  · rw [aq_190]
    simp (disch := first | assumption | omega) only [ax_gt, ax_gi, Option.bind_some, ax_gbl, ax_gb2, ax_gd, Int.reduceEq, Int.reduceNe, Int.reduceLT, Int.reduceLE, Int.reduceAdd, Int.reduceSub, Int.reduceMul, Int.reduceNeg, reduceIte, ite_true, ite_false, true_and, and_true, false_and, and_false, true_or, or_true, false_or, or_false, not_true_eq_false, not_false_eq_true, and_self, or_self, eq_self, ite_self, decide_true, decide_false, Bool.true_and, Bool.and_true, Bool.and_self, Bool.false_and, Int.add_zero, Int.zero_add, ax_o_1, kr_1_0, kr_1_1, kr_1_2, kr_1_3, kr_1_4, kr_1_5, kr_1_6, kr_1_7, kr_1_9, kr_1_10, kr_1_11, kr_1_12, kr_1_13, kr_1_14, ax_a_419, ax_o_2, kr_2_0, kr_2_1, kr_2_2, kr_2_3, kr_2_4, ax_a_3, ax_a_4, ax_a_5, ax_a_6, ax_a_7, ax_o_8, kr_8_0, kr_8_1, kr_8_2, kr_8_3, kr_8_4, ax_a_9, ax_a_10, ax_a_11, ax_a_12, ax_a_13, ax_o_43, kr_43_0, kr_43_1, kr_43_2, kr_43_3, kr_43_4, ax_a_44, ax_a_45, ax_a_46, ax_a_47, ax_a_48, ax_o_49, kr_49_0, kr_49_1, kr_49_2, kr_49_3, kr_49_4, ax_a_50, ax_a_51, ax_a_52, ax_a_53, ax_a_54, ax_o_55, kr_55_0, ax_q_56, ax_o_237, kr_237_0, ax_q_238, eA, eB, eC, e6]
  · rw [aq_167]
    simp (disch := first | assumption | omega) only [ax_gt, ax_gi, Option.bind_some, ax_gbl, ax_gb2, ax_gd, Int.reduceEq, Int.reduceNe, Int.reduceLT, Int.reduceLE, Int.reduceAdd, Int.reduceSub, Int.reduceMul, Int.reduceNeg, reduceIte, ite_true, ite_false, true_and, and_true, false_and, and_false, true_or, or_true, false_or, or_false, not_true_eq_false, not_false_eq_true, and_self, or_self, eq_self, ite_self, decide_true, decide_false, Bool.true_and, Bool.and_true, Bool.and_self, Bool.false_and, Int.add_zero, Int.zero_add, ax_o_447, ax_a_448, kr_447_0, eN]
  · exact RT_same a.2.2.2.1 (fun x i h => eM x i (by omega) (by omega) (by omega))
  · refine RX_le a.2.2.2.2 ?_ ?_ fun x i h => eM x i (by omega) (by omega) (by omega)
    · rw [er 3 (by omega) (by omega), eM 448 3 (by omega) (by omega) (by omega)]; exact Int.le_refl _
    · rw [eM 448 3 (by omega) (by omega) (by omega)]; exact Int.le_refl _
theorem op_again (a : RR M) : OP d M 191 168 [] := by
  have hK := a.1
  have hX := a.2.2.2.2.1
  obtain ⟨A, eA, KA, cA, fA⟩ := c_6 hK (show gn 2 from Or.inl rfl) (show gn 43 from Or.inr rfl) (by decide)
  obtain ⟨rB, B, eB, cB, fB⟩ := c_22 (d := d) KA (show hn 8 from rfl) (show hn 49 from rfl) (by decide)
  have KB := ax_Kp eB KA rfl
  obtain ⟨rC, C, eC, cC, c1, c2, fC⟩ := c_133 (d := d) (s := 55) (s2 := 237) KB (Or.inl ⟨rfl, rfl⟩)
  have KC := ax_Kp eC KB rfl
  obtain ⟨rN, N, eN, fN⟩ := m_67 (d := d) KC (o := 0) (Or.inl rfl)
  have KN := ax_Kp eN KC rfl
  have oN : ∀ c i, c ≠ 448 → am_rd N c i = am_rd C c i := fun c i h => by rw [fN, if_neg (by omega)]
  have eAB : ∀ c i, (c < 2 ∨ 13 < c) → am_rd B c i = am_rd M c i := fun c i h => (fB c i (by omega)).trans (fA c i (by omega))
  have eM : ∀ c i, (c < 2 ∨ 13 < c) → (c < 55 ∨ 236 < c) → c ≠ 448 → am_rd N c i = am_rd M c i := fun c i h1 h2 h3 => (oN c i h3).trans ((fC c i (by omega)).trans (eAB c i h1))
  have er : ∀ i, 0 ≤ i → i < 5160 → am_rd N 448 i = am_rd M 449 i := fun i i0 i1 => by
    rw [fN, if_pos (by omega)]
    exact (fC 449 i (by omega)).trans (eAB 449 i (by omega))
  have P2 : RP N N 43 49 237 449 := RP_same a.2.2.1 (fun x i h => eM x i (by omega) (by omega) (by omega)) (fun i _ _ => eM 449 i (by omega) (by omega) (by omega))
  have P1 : RP N N 2 8 55 448 := by
    refine RP_copy a.2.2.1 (gCp_post cA fun c i h1 h2 => ?_) (hCp_pre (hCp_post cB fun c i h1 h2 => ?_) fun c i h1 h2 => ?_) (fun k k0 k1 => hCp_pre (hCp_post (cC k k0 k1) fun c i h1 h2 => ?_) fun c i h1 h2 => ?_) ?_ ?_ er
    · exact (oN c i (by omega)).trans ((fC c i (by omega)).trans (fB c i (by omega)))
    · exact (oN c i (by omega)).trans (fC c i (by omega))
    · exact fA c i (by omega)
    · exact oN c i (by omega)
    · exact eAB c i (by omega)
    · exact (oN 55 1 (by omega)).trans (c1.trans (eAB 237 1 (by omega)))
    · exact (oN 55 2 (by omega)).trans (c2.trans (eAB 237 2 (by omega)))
  have e6 : am_rd C 8 6 = am_rd N 448 222 := (oN 8 6 (by omega)).symm.trans (RP_6 P1)
  refine ⟨am_rd N 448 222, C, N, ?_, ?_, KN, P1, P2, ?_, ?_⟩
  · rw [aq_191]
    simp (disch := first | assumption | omega) only [ax_gt, ax_gi, Option.bind_some, ax_gbl, ax_gb2, ax_gd, Int.reduceEq, Int.reduceNe, Int.reduceLT, Int.reduceLE, Int.reduceAdd, Int.reduceSub, Int.reduceMul, Int.reduceNeg, reduceIte, ite_true, ite_false, true_and, and_true, false_and, and_false, true_or, or_true, false_or, or_false, not_true_eq_false, not_false_eq_true, and_self, or_self, eq_self, ite_self, decide_true, decide_false, Bool.true_and, Bool.and_true, Bool.and_self, Bool.false_and, Int.add_zero, Int.zero_add, ax_o_1, kr_1_0, kr_1_1, kr_1_2, kr_1_3, kr_1_4, kr_1_5, kr_1_6, kr_1_7, kr_1_9, kr_1_10, kr_1_11, kr_1_12, kr_1_13, kr_1_14, ax_a_419, ax_o_2, kr_2_0, kr_2_1, kr_2_2, kr_2_3, kr_2_4, ax_a_3, ax_a_4, ax_a_5, ax_a_6, ax_a_7, ax_o_8, kr_8_0, kr_8_1, kr_8_2, kr_8_3, kr_8_4, ax_a_9, ax_a_10, ax_a_11, ax_a_12, ax_a_13, ax_o_43, kr_43_0, kr_43_1, kr_43_2, kr_43_3, kr_43_4, ax_a_44, ax_a_45, ax_a_46, ax_a_47, ax_a_48, ax_o_49, kr_49_0, kr_49_1, kr_49_2, kr_49_3, kr_49_4, ax_a_50, ax_a_51, ax_a_52, ax_a_53, ax_a_54, ax_o_55, kr_55_0, ax_q_56, ax_o_237, kr_237_0, ax_q_238, eA, eB, eC, e6]
  · rw [aq_168]
    simp (disch := first | assumption | omega) only [ax_gt, ax_gi, Option.bind_some, ax_gbl, ax_gb2, ax_gd, Int.reduceEq, Int.reduceNe, Int.reduceLT, Int.reduceLE, Int.reduceAdd, Int.reduceSub, Int.reduceMul, Int.reduceNeg, reduceIte, ite_true, ite_false, true_and, and_true, false_and, and_false, true_or, or_true, false_or, or_false, not_true_eq_false, not_false_eq_true, and_self, or_self, eq_self, ite_self, decide_true, decide_false, Bool.true_and, Bool.and_true, Bool.and_self, Bool.false_and, Int.add_zero, Int.zero_add, ax_o_447, ax_a_448, kr_447_0, eN]
  · exact RT_same a.2.2.2.1 (fun x i h => eM x i (by omega) (by omega) (by omega))
  · refine RX_le a.2.2.2.2 ?_ ?_ fun x i h => eM x i (by omega) (by omega) (by omega)
    · rw [er 3 (by omega) (by omega), eM 449 3 (by omega) (by omega) (by omega)]; exact Int.le_refl _
    · rw [er 3 (by omega) (by omega)]; exact hX
end
