/-! CALLS that keep a step -/
section
variable {M : am_M} {d : Nat}
theorem OP_st (a : RR M) {x m : Nat} {as : List am_V} {r : Int} {H' : Int → Int} (B : HB (am_rd M 448 0) H') (hd : H' 162 ≤ 999) (hx : ax_ok (am_Call d x ((2, 1) :: as) M) (fun r' M1 => r' = r ∧ ∃ Ma, KP M Ma ∧ HF Ma M1 8 ∧ CH M1 8 (am_rd M 448 1) H')) (nx : ax_nc x = true) (hm : ∀ N, ax_K N → DF M N → ax_ok (am_Call d m ((2, 447) :: as) N) (fun r' M2 => r' = r ∧ ∃ Mb, KM N Mb ∧ FH M2 448 60 H' ∧ RF Mb M2)) (nm : ax_nc m = true) : OP d M x m as := by
  obtain ⟨r1, M1, e1, rfl, Ma, k1, f1, c1⟩ := hx
  have hK1 := ax_Kp e1 a.1 nx
  have q := a.2.1.2.2.2.1
  have c5 := a.2.1.2.1.1.2.2.2.2.2.1
  have D1 : DF M M1 := DF_trans (KP_DF k1 q.1 q.2) (HF_DF f1)
  obtain ⟨r2, M2, e2, rfl, Mb, k2, c2, f2⟩ := hm M1 hK1 D1
  have hK2 := ax_Kp e2 hK1 nm
  have row : RowEq M1 M := fun i _ _ => D1 448 i (by omega) (by omega) (by omega) (by omega)
  exact ⟨_, M1, M2, e1, e2, RR_fin a (cStep a.2.1 k1 f1 c1 B hd) D1 (DG_trans (KM_DG k2) (RF_DG f2)) (mStep row c5 k2 c2 fun i hi => f2 448 i (by omega) (by omega) (by omega) (by omega) (by omega)) (stN_low c5.1 (by omega) (by omega)) hK2⟩
theorem fl_at {c o j k : Int} (h : o + j = k) : fl M c o j = am_rd M c k := by rw [← h]; rfl
theorem DF_fl {N : am_M} (D : DF M N) : FH N 448 60 (fl M 448 60) := fun j _ _ => D 448 _ (by omega) (by omega) (by omega) (by omega)
theorem DF_r {N : am_M} (D : DF M N) {i : Int} : am_rd N 448 i = am_rd M 448 i := D 448 i (by omega) (by omega) (by omega) (by omega)
theorem DF_ME {N : am_M} {T n al : Int} {P W : Int → Int} {cd : Int → Option (List (Int × Int))} (E : ME M T n al P W cd) (D : DF M N) : ME N T n al P W cd := ME_same E fun c i h => D c i (by omega) (by omega) (by omega) (by omega)
theorem DF_mB {N : am_M} (b : mb_B M) (D : DF M N) : mb_B N := by
  unfold mb_B
  rw [DF_r D, DF_r D, DF_r D, DF_r D, DF_r D, DF_r D]
  exact b
theorem KM_ME {N Mb : am_M} {T n al : Int} {P W : Int → Int} {cd : Int → Option (List (Int × Int))} (E : ME N T n al P W cd) (k : KM N Mb) (h5 : 0 ≤ am_rd N 448 5) : ME Mb T n al P W cd := by
  obtain ⟨⟨h1, h2, h3⟩, h4, h5', h6⟩ := E
  refine ⟨⟨by rw [KM_low k h5 (by omega) (by omega)]; exact h1, by rw [KM_low k h5 (by omega) (by omega)]; exact h2, by rw [KM_low k h5 (by omega) (by omega)]; exact h3⟩, fun j j0 j1 => by rw [KM_low k h5 (by omega) (by omega)]; exact h4 j j0 j1, fun j j0 j1 => by rw [KM_low k h5 (by omega) (by omega)]; exact h5' j j0 j1, ?_⟩
  unfold ML at h6 ⊢
  rw [KM_low k h5 (by omega) (by omega), KM_o k (by omega)]
  rcases h6 with h | ⟨g1, g2, g3⟩
  · exact Or.inl h
  · exact Or.inr ⟨g1, g2, fun q q0 q1 => MT_same (g3 q q0 q1) fun c i hc => KM_o k (by omega)⟩
theorem KM_FH {N Mb : am_M} {H : Int → Int} (F : FH N 448 60 H) (k : KM N Mb) (h5 : 0 ≤ am_rd N 448 5) : FH Mb 448 60 H := fun j j0 j1 => (KM_H k h5 j0 j1).trans (F j j0 j1)
/-- what is at hand behind the developers' keeping -/
theorem KP_get (d : Nat) (a : RR M) : ∃ r Ma, am_Call d 134 [(2, 55), (2, 8)] M = some (r, Ma) ∧ ax_K Ma ∧ KP M Ma ∧ CH Ma 8 (am_rd M 448 1) (fl M 448 60) ∧ (∀ c i, c ≤ 7 ∨ (14 ≤ c ∧ c ≤ 38) → am_rd Ma c i = am_rd M c i) := by
  have q := a.2.1.2.2.2.1
  have s := a.2.1.2.2.2.2.1
  have c5 := a.2.1.2.1.1.2.2.2.2.2.1
  obtain ⟨r, Ma, e, h⟩ := c_134 (d := d) a.1 q.1 q.2 (by rw [s]; exact c5.1) (by rw [s]; exact c5.2)
  exact ⟨r, Ma, e, ax_Kp e a.1 rfl, h, CH_same (RR_C a) fun c i h1 h2 => h.2.2.2 c i (by omega) (by omega), fun c i hc => h.2.2.2 c i (by omega) (by omega)⟩
theorem h88 : (8 : Int) = 8 ∨ (8 : Int) = 425 := Or.inl rfl
theorem op_teach (a : RR M) {m t k : Int} : OP d M 184 253 [(0, m), (0, t), (0, k)] := by
  have hK := a.1
  have gB := RR_gB a
  have mB := RR_mB a
  have g := a.2.1.1
  have hT := a.2.1.2.1.1.1
  have hn := a.2.1.2.1.1.2.1
  have hd := a.2.1.2.2.1.2.2
  have c5 := a.2.1.2.1.1.2.2.2.2.2.1
  have C := RR_C a
  have B := RR_H a
  have c107 := fun d => c_107 (d := d) (m := m) (t := t) hK gB
  rw [g.1.1, g.1.2.1] at c107
  have m225 := fun d => m_225 (d := d) (m := m) (t := t) hK mB
  rw [← fl_at (M := M) (c := 448) (o := 60) (j := 156 + m) (k := 216 + m) (by omega), ← fl_at (M := M) (c := 448) (o := 60) (j := 150 + m) (k := 210 + m) (by omega)] at m225
  by_cases h1 : (0 ≤ m ∧ m < am_rd M 448 1) ∧ (0 ≤ t ∧ t < am_rd M 448 0)
  · have c118 := fun d => c_118 (d := d) (t := t) hK h88 C h1.1.1 (by omega) h1.1.2
    by_cases h2 : 1 ≤ k ∧ k ≤ 99
    · by_cases h3 : fl M 448 60 (156 + m) = 0 ∧ ¬ fl M 448 60 (150 + m) = t
      · have bb := B.1 (8 * m + t) (by omega) (by omega)
        have B' := HB_R (v := fl M 448 60 (8 * m + t) + k) B h1.1.1 (by omega) h1.2.1 h1.2.2 hT.2
        have hR1 : hR (fl M 448 60) m t (fl M 448 60 (8 * m + t) + k) 162 = am_rd M 448 222 := by
          simp (disch := omega) only [hR, hu, if_neg]
          exact fl_at (by omega)
        refine OP_st (r := hR (fl M 448 60) m t (fl M 448 60 (8 * m + t) + k) (8 * m + t)) a B' (by rw [hR1]; exact hd) ?_ rfl ?_ rfl
        · obtain ⟨r1, Ma, e1, K1, k1, C1, -⟩ := KP_get d a
          have e2 := c_114 (d := d) K1 h88 C1 h1.1.1 (by omega) h1.2.1 (by omega)
          obtain ⟨r3, M3, e3, C3, F3⟩ := c_119 (d := d) (v := fl M 448 60 (8 * m + t) + k) K1 h88 C1 h1.1.1 (by omega) h1.2.1 (by omega)
          have K3 := ax_Kp e3 K1 rfl
          have e4 := c_114 (d := d) K3 h88 C3 h1.1.1 (by omega) h1.2.1 (by omega)
          rw [aq_184]
          simp (disch := first | assumption | omega) only [ax_gt, ax_gi, Option.bind_some, ax_gbl, ax_gb2, ax_gd, Int.reduceEq, Int.reduceNe, Int.reduceLT, Int.reduceLE, Int.reduceAdd, Int.reduceSub, Int.reduceMul, Int.reduceNeg, reduceIte, ite_true, ite_false, true_and, and_true, false_and, and_false, true_or, or_true, false_or, or_false, not_true_eq_false, not_false_eq_true, and_self, or_self, eq_self, ite_self, decide_true, decide_false, Bool.true_and, Bool.and_true, Bool.and_self, Bool.false_and, Int.add_zero, Int.zero_add, ax_rw, if_pos, if_neg, ax_w32, ax_o_1, kr_1_0, kr_1_1, kr_1_2, kr_1_3, kr_1_4, kr_1_5, kr_1_6, kr_1_7, kr_1_9, kr_1_10, kr_1_11, kr_1_12, kr_1_13, kr_1_14, ax_a_419, ax_o_2, kr_2_0, kr_2_1, kr_2_2, kr_2_3, kr_2_4, ax_a_3, ax_a_4, ax_a_5, ax_a_6, ax_a_7, ax_o_8, kr_8_0, kr_8_1, kr_8_2, kr_8_3, kr_8_4, ax_a_9, ax_a_10, ax_a_11, ax_a_12, ax_a_13, ax_o_55, kr_55_0, ax_q_56, c107, ax_b0, h1, c118, h3, e1, e2, e3, e4]
          exact ax_ok_some ⟨rfl, Ma, k1, F3, C3⟩
        · intro N hN D
          have mB' := DF_mB mB D
          have m225' := m_225 (d := d) (m := m) (t := t) hN mB'
          rw [DF_r D, DF_r D, DF_r D, DF_r D, ← fl_at (M := M) (c := 448) (o := 60) (j := 156 + m) (k := 216 + m) (by omega), ← fl_at (M := M) (c := 448) (o := 60) (j := 150 + m) (k := 210 + m) (by omega)] at m225'
          obtain ⟨r5, M5, e5, k5⟩ := m_68' (d := d) hN mB'
          have K5 := ax_Kp e5 hN rfl
          have F5 := KM_FH (DF_fl D) k5 mB'.2.2.2.2.2.1
          obtain ⟨r6, M6, e6, F6, f6⟩ := m_197 (d := d) (v := k) K5 F5 B h1.1.1 (by omega) h1.2.1 (by omega) h2.1 h2.2
          have K6 := ax_Kp e6 K5 rfl
          have g6 := F6 (8 * m + t) (by omega) (by omega)
          rw [show 60 + (8 * m + t) = 60 + 8 * m + t by omega] at g6
          rw [aq_253]
          simp (disch := first | assumption | omega) only [ax_gt, ax_gi, Option.bind_some, ax_gbl, ax_gb2, ax_gd, Int.reduceEq, Int.reduceNe, Int.reduceLT, Int.reduceLE, Int.reduceAdd, Int.reduceSub, Int.reduceMul, Int.reduceNeg, reduceIte, ite_true, ite_false, true_and, and_true, false_and, and_false, true_or, or_true, false_or, or_false, not_true_eq_false, not_false_eq_true, and_self, or_self, eq_self, ite_self, decide_true, decide_false, Bool.true_and, Bool.and_true, Bool.and_self, Bool.false_and, Int.add_zero, Int.zero_add, ax_rw, if_pos, if_neg, ax_w32, ax_o_447, ax_a_448, kr_447_0, m225', m_64, ax_b0, h1, h2, h3, e5, e6, g6]
          refine ax_ok_some ?_
          exact ⟨rfl, M5, k5, F6, f6⟩
      · refine ⟨-1, M, M, ?_, ?_, a⟩
        · rw [aq_184]; simp (disch := first | assumption | omega) only [ax_gt, ax_gi, Option.bind_some, ax_gbl, ax_gb2, ax_gd, Int.reduceEq, Int.reduceNe, Int.reduceLT, Int.reduceLE, Int.reduceAdd, Int.reduceSub, Int.reduceMul, Int.reduceNeg, reduceIte, ite_true, ite_false, true_and, and_true, false_and, and_false, true_or, or_true, false_or, or_false, not_true_eq_false, not_false_eq_true, and_self, or_self, eq_self, ite_self, decide_true, decide_false, Bool.true_and, Bool.and_true, Bool.and_self, Bool.false_and, Int.add_zero, Int.zero_add, ax_rw, if_pos, if_neg, ax_o_1, kr_1_0, kr_1_1, kr_1_2, kr_1_3, kr_1_4, kr_1_5, kr_1_6, kr_1_7, kr_1_9, kr_1_10, kr_1_11, kr_1_12, kr_1_13, kr_1_14, ax_a_419, ax_o_2, kr_2_0, kr_2_1, kr_2_2, kr_2_3, kr_2_4, ax_a_3, ax_a_4, ax_a_5, ax_a_6, ax_a_7, ax_o_8, kr_8_0, kr_8_1, kr_8_2, kr_8_3, kr_8_4, ax_a_9, ax_a_10, ax_a_11, ax_a_12, ax_a_13, c107, ax_b0, h1, c118, h3]
        · rw [aq_253]; simp (disch := first | assumption | omega) only [ax_gt, ax_gi, Option.bind_some, ax_gbl, ax_gb2, ax_gd, Int.reduceEq, Int.reduceNe, Int.reduceLT, Int.reduceLE, Int.reduceAdd, Int.reduceSub, Int.reduceMul, Int.reduceNeg, reduceIte, ite_true, ite_false, true_and, and_true, false_and, and_false, true_or, or_true, false_or, or_false, not_true_eq_false, not_false_eq_true, and_self, or_self, eq_self, ite_self, decide_true, decide_false, Bool.true_and, Bool.and_true, Bool.and_self, Bool.false_and, Int.add_zero, Int.zero_add, ax_rw, if_pos, if_neg, ax_o_447, m225, ax_b0]
    · refine ⟨-1, M, M, ?_, ?_, a⟩
      · rw [aq_184]
        simp (disch := first | assumption | omega) only [ax_gt, ax_gi, Option.bind_some, ax_gbl, ax_gb2, ax_gd, Int.reduceEq, Int.reduceNe, Int.reduceLT, Int.reduceLE, Int.reduceAdd, Int.reduceSub, Int.reduceMul, Int.reduceNeg, reduceIte, ite_true, ite_false, true_and, and_true, false_and, and_false, true_or, or_true, false_or, or_false, not_true_eq_false, not_false_eq_true, and_self, or_self, eq_self, ite_self, decide_true, decide_false, Bool.true_and, Bool.and_true, Bool.and_self, Bool.false_and, Int.add_zero, Int.zero_add, ax_rw, if_pos, if_neg, ax_o_1, kr_1_0, kr_1_1, kr_1_2, kr_1_3, kr_1_4, kr_1_5, kr_1_6, kr_1_7, kr_1_9, kr_1_10, kr_1_11, kr_1_12, kr_1_13, kr_1_14, ax_a_419, ax_o_2, kr_2_0, kr_2_1, kr_2_2, kr_2_3, kr_2_4, ax_a_3, ax_a_4, ax_a_5, ax_a_6, ax_a_7, ax_o_8, kr_8_0, kr_8_1, kr_8_2, kr_8_3, kr_8_4, ax_a_9, ax_a_10, ax_a_11, ax_a_12, ax_a_13, c107, ax_b0, h1]
        all_goals ((repeat' split) <;> first | rfl | (exfalso; omega))
      · rw [aq_253]
        simp (disch := first | assumption | omega) only [ax_gt, ax_gi, Option.bind_some, ax_gbl, ax_gb2, ax_gd, Int.reduceEq, Int.reduceNe, Int.reduceLT, Int.reduceLE, Int.reduceAdd, Int.reduceSub, Int.reduceMul, Int.reduceNeg, reduceIte, ite_true, ite_false, true_and, and_true, false_and, and_false, true_or, or_true, false_or, or_false, not_true_eq_false, not_false_eq_true, and_self, or_self, eq_self, ite_self, decide_true, decide_false, Bool.true_and, Bool.and_true, Bool.and_self, Bool.false_and, Int.add_zero, Int.zero_add, ax_o_447, m225, ax_b0, m_64]
        all_goals ((repeat' split) <;> first | rfl | (exfalso; omega))
  · refine ⟨-1, M, M, ?_, ?_, a⟩
    · rw [aq_184]; simp (disch := first | assumption | omega) only [ax_gt, ax_gi, Option.bind_some, ax_gbl, ax_gb2, ax_gd, Int.reduceEq, Int.reduceNe, Int.reduceLT, Int.reduceLE, Int.reduceAdd, Int.reduceSub, Int.reduceMul, Int.reduceNeg, reduceIte, ite_true, ite_false, true_and, and_true, false_and, and_false, true_or, or_true, false_or, or_false, not_true_eq_false, not_false_eq_true, and_self, or_self, eq_self, ite_self, decide_true, decide_false, Bool.true_and, Bool.and_true, Bool.and_self, Bool.false_and, Int.add_zero, Int.zero_add, ax_rw, if_pos, if_neg, ax_o_1, kr_1_0, kr_1_1, kr_1_2, kr_1_3, kr_1_4, kr_1_5, kr_1_6, kr_1_7, kr_1_9, kr_1_10, kr_1_11, kr_1_12, kr_1_13, kr_1_14, ax_a_419, ax_o_2, kr_2_0, kr_2_1, kr_2_2, kr_2_3, kr_2_4, ax_a_3, ax_a_4, ax_a_5, ax_a_6, ax_a_7, c107, ax_b0, h1]
    · rw [aq_253]; simp (disch := first | assumption | omega) only [ax_gt, ax_gi, Option.bind_some, ax_gbl, ax_gb2, ax_gd, Int.reduceEq, Int.reduceNe, Int.reduceLT, Int.reduceLE, Int.reduceAdd, Int.reduceSub, Int.reduceMul, Int.reduceNeg, reduceIte, ite_true, ite_false, true_and, and_true, false_and, and_false, true_or, or_true, false_or, or_false, not_true_eq_false, not_false_eq_true, and_self, or_self, eq_self, ite_self, decide_true, decide_false, Bool.true_and, Bool.and_true, Bool.and_self, Bool.false_and, Int.add_zero, Int.zero_add, ax_rw, if_pos, if_neg, ax_o_447, m225, ax_b0]
theorem op_mislead (a : RR M) {m t k : Int} : OP d M 242 283 [(0, m), (0, t), (0, k)] := by
  have hK := a.1
  have gB := RR_gB a
  have mB := RR_mB a
  have g := a.2.1.1
  have hT := a.2.1.2.1.1.1
  have hn := a.2.1.2.1.1.2.1
  have hd := a.2.1.2.2.1.2.2
  have C := RR_C a
  have B := RR_H a
  obtain ⟨P, W, cd, E, E2, S⟩ := RR_env a
  have c107 := fun d => c_107 (d := d) (m := m) (t := t) hK gB
  rw [g.1.1, g.1.2.1] at c107
  have m196 := fun d => m_196 (d := d) (m := m) hK mB
  rw [← fl_at (M := M) (c := 448) (o := 60) (j := 156 + m) (k := 216 + m) (by omega)] at m196
  have m143 := fun d => m_143 (d := d) (t := t) hK mB
  by_cases h1 : (0 ≤ m ∧ m < am_rd M 448 1) ∧ (0 ≤ t ∧ t < am_rd M 448 0)
  · have c25 := fun d => c_25 (d := d) hK h88 C h1.1.1 (by omega)
    by_cases h2 : 1 ≤ k ∧ k ≤ 99
    · by_cases h3 : fl M 448 60 (156 + m) = 0
      · have B' := HB_M (k := k) S B h1.1.1 (by omega) h1.2.1 h1.2.2
        have hR1 : hM P W cd m t k (fl M 448 60) 162 = am_rd M 448 222 := by
          unfold hM
          split
          · simp (disch := omega) only [hW, hu, if_neg]
            exact fl_at (by omega)
          · simp (disch := omega) only [hR, hW, hu, if_neg]
            exact fl_at (by omega)
        refine OP_st (r := hM P W cd m t k (fl M 448 60) (8 * m + t)) a B' (by rw [hR1]; exact hd) ?_ rfl ?_ rfl
        · obtain ⟨r1, Ma, e1, K1, k1, C1, g1⟩ := KP_get d a
          obtain ⟨r3, M3, e3, C3, F3⟩ := c_207 (d := d) (k := k) K1 h88 C1 (CE_same E g1) S B h1.1.1 h1.1.2 h1.2.1 h1.2.2 h2.1 h2.2
          have K3 := ax_Kp e3 K1 rfl
          have e4 := c_114 (d := d) K3 h88 C3 h1.1.1 (by omega) h1.2.1 (by omega)
          rw [aq_242]
          simp (disch := first | assumption | omega) only [ax_gt, ax_gi, Option.bind_some, ax_gbl, ax_gb2, ax_gd, Int.reduceEq, Int.reduceNe, Int.reduceLT, Int.reduceLE, Int.reduceAdd, Int.reduceSub, Int.reduceMul, Int.reduceNeg, reduceIte, ite_true, ite_false, true_and, and_true, false_and, and_false, true_or, or_true, false_or, or_false, not_true_eq_false, not_false_eq_true, and_self, or_self, eq_self, ite_self, decide_true, decide_false, Bool.true_and, Bool.and_true, Bool.and_self, Bool.false_and, Int.add_zero, Int.zero_add, ax_rw, if_pos, if_neg, ax_w32, ax_o_1, kr_1_0, kr_1_1, kr_1_2, kr_1_3, kr_1_4, kr_1_5, kr_1_6, kr_1_7, kr_1_9, kr_1_10, kr_1_11, kr_1_12, kr_1_13, kr_1_14, ax_a_419, ax_o_2, kr_2_0, kr_2_1, kr_2_2, kr_2_3, kr_2_4, ax_a_3, ax_a_4, ax_a_5, ax_a_6, ax_a_7, ax_o_8, kr_8_0, kr_8_1, kr_8_2, kr_8_3, kr_8_4, ax_a_9, ax_a_10, ax_a_11, ax_a_12, ax_a_13, ax_o_42, kr_42_0, kr_42_1, ax_o_55, kr_55_0, ax_q_56, c107, ax_b0, h1, c25, h3, e1, e3, e4]
          exact ax_ok_some ⟨rfl, Ma, k1, F3, C3⟩
        · intro N hN D
          have mB' := DF_mB mB D
          have m196' := m_196 (d := d) (m := m) hN mB'
          rw [DF_r D, DF_r D, ← fl_at (M := M) (c := 448) (o := 60) (j := 156 + m) (k := 216 + m) (by omega)] at m196'
          have m143' := m_143 (d := d) (t := t) hN mB'
          rw [DF_r D] at m143'
          obtain ⟨r5, M5, e5, k5⟩ := m_68' (d := d) hN mB'
          have K5 := ax_Kp e5 hN rfl
          have F5 := KM_FH (DF_fl D) k5 mB'.2.2.2.2.2.1
          obtain ⟨r6, M6, e6, F6, f6⟩ := m_266 (d := d) (k := k) K5 F5 (KM_ME (DF_ME E2 D) k5 mB'.2.2.2.2.2.1) S B h1.1.1 (by omega) h1.2.1 h1.2.2 h2.1 h2.2
          have K6 := ax_Kp e6 K5 rfl
          have g6 := F6 (8 * m + t) (by omega) (by omega)
          rw [show 60 + (8 * m + t) = 60 + 8 * m + t by omega] at g6
          rw [aq_283]
          simp (disch := first | assumption | omega) only [ax_gt, ax_gi, Option.bind_some, ax_gbl, ax_gb2, ax_gd, Int.reduceEq, Int.reduceNe, Int.reduceLT, Int.reduceLE, Int.reduceAdd, Int.reduceSub, Int.reduceMul, Int.reduceNeg, reduceIte, ite_true, ite_false, true_and, and_true, false_and, and_false, true_or, or_true, false_or, or_false, not_true_eq_false, not_false_eq_true, and_self, or_self, eq_self, ite_self, decide_true, decide_false, Bool.true_and, Bool.and_true, Bool.and_self, Bool.false_and, Int.add_zero, Int.zero_add, ax_rw, if_pos, if_neg, ax_w32, ax_o_447, ax_a_448, kr_447_0, m196', m143', m_64, ax_b0, h1, h2, h3, e5, e6, g6]
          refine ax_ok_some ?_
          exact ⟨rfl, M5, k5, F6, f6⟩
      · refine ⟨-1, M, M, ?_, ?_, a⟩
        · rw [aq_242]; simp (disch := first | assumption | omega) only [ax_gt, ax_gi, Option.bind_some, ax_gbl, ax_gb2, ax_gd, Int.reduceEq, Int.reduceNe, Int.reduceLT, Int.reduceLE, Int.reduceAdd, Int.reduceSub, Int.reduceMul, Int.reduceNeg, reduceIte, ite_true, ite_false, true_and, and_true, false_and, and_false, true_or, or_true, false_or, or_false, not_true_eq_false, not_false_eq_true, and_self, or_self, eq_self, ite_self, decide_true, decide_false, Bool.true_and, Bool.and_true, Bool.and_self, Bool.false_and, Int.add_zero, Int.zero_add, ax_rw, if_pos, if_neg, ax_o_1, kr_1_0, kr_1_1, kr_1_2, kr_1_3, kr_1_4, kr_1_5, kr_1_6, kr_1_7, kr_1_9, kr_1_10, kr_1_11, kr_1_12, kr_1_13, kr_1_14, ax_a_419, ax_o_2, kr_2_0, kr_2_1, kr_2_2, kr_2_3, kr_2_4, ax_a_3, ax_a_4, ax_a_5, ax_a_6, ax_a_7, ax_o_8, kr_8_0, kr_8_1, kr_8_2, kr_8_3, kr_8_4, ax_a_9, ax_a_10, ax_a_11, ax_a_12, ax_a_13, c107, ax_b0, h1, c25, h3]
        · rw [aq_283]; simp (disch := first | assumption | omega) only [ax_gt, ax_gi, Option.bind_some, ax_gbl, ax_gb2, ax_gd, Int.reduceEq, Int.reduceNe, Int.reduceLT, Int.reduceLE, Int.reduceAdd, Int.reduceSub, Int.reduceMul, Int.reduceNeg, reduceIte, ite_true, ite_false, true_and, and_true, false_and, and_false, true_or, or_true, false_or, or_false, not_true_eq_false, not_false_eq_true, and_self, or_self, eq_self, ite_self, decide_true, decide_false, Bool.true_and, Bool.and_true, Bool.and_self, Bool.false_and, Int.add_zero, Int.zero_add, ax_rw, if_pos, if_neg, ax_o_447, m196, ax_b0]
    · refine ⟨-1, M, M, ?_, ?_, a⟩
      · rw [aq_242]
        simp (disch := first | assumption | omega) only [ax_gt, ax_gi, Option.bind_some, ax_gbl, ax_gb2, ax_gd, Int.reduceEq, Int.reduceNe, Int.reduceLT, Int.reduceLE, Int.reduceAdd, Int.reduceSub, Int.reduceMul, Int.reduceNeg, reduceIte, ite_true, ite_false, true_and, and_true, false_and, and_false, true_or, or_true, false_or, or_false, not_true_eq_false, not_false_eq_true, and_self, or_self, eq_self, ite_self, decide_true, decide_false, Bool.true_and, Bool.and_true, Bool.and_self, Bool.false_and, Int.add_zero, Int.zero_add, ax_rw, if_pos, if_neg, ax_o_1, kr_1_0, kr_1_1, kr_1_2, kr_1_3, kr_1_4, kr_1_5, kr_1_6, kr_1_7, kr_1_9, kr_1_10, kr_1_11, kr_1_12, kr_1_13, kr_1_14, ax_a_419, ax_o_2, kr_2_0, kr_2_1, kr_2_2, kr_2_3, kr_2_4, ax_a_3, ax_a_4, ax_a_5, ax_a_6, ax_a_7, ax_o_8, kr_8_0, kr_8_1, kr_8_2, kr_8_3, kr_8_4, ax_a_9, ax_a_10, ax_a_11, ax_a_12, ax_a_13, c107, ax_b0, h1]
        all_goals ((repeat' split) <;> first | rfl | (exfalso; omega))
      · rw [aq_283]
        simp (disch := first | assumption | omega) only [ax_gt, ax_gi, Option.bind_some, ax_gbl, ax_gb2, ax_gd, Int.reduceEq, Int.reduceNe, Int.reduceLT, Int.reduceLE, Int.reduceAdd, Int.reduceSub, Int.reduceMul, Int.reduceNeg, reduceIte, ite_true, ite_false, true_and, and_true, false_and, and_false, true_or, or_true, false_or, or_false, not_true_eq_false, not_false_eq_true, and_self, or_self, eq_self, ite_self, decide_true, decide_false, Bool.true_and, Bool.and_true, Bool.and_self, Bool.false_and, Int.add_zero, Int.zero_add, ax_o_447, m196, m143, ax_b0, m_64]
        all_goals ((repeat' split) <;> first | rfl | (exfalso; omega))
  · refine ⟨-1, M, M, ?_, ?_, a⟩
    · rw [aq_242]; simp (disch := first | assumption | omega) only [ax_gt, ax_gi, Option.bind_some, ax_gbl, ax_gb2, ax_gd, Int.reduceEq, Int.reduceNe, Int.reduceLT, Int.reduceLE, Int.reduceAdd, Int.reduceSub, Int.reduceMul, Int.reduceNeg, reduceIte, ite_true, ite_false, true_and, and_true, false_and, and_false, true_or, or_true, false_or, or_false, not_true_eq_false, not_false_eq_true, and_self, or_self, eq_self, ite_self, decide_true, decide_false, Bool.true_and, Bool.and_true, Bool.and_self, Bool.false_and, Int.add_zero, Int.zero_add, ax_rw, if_pos, if_neg, ax_o_1, kr_1_0, kr_1_1, kr_1_2, kr_1_3, kr_1_4, kr_1_5, kr_1_6, kr_1_7, kr_1_9, kr_1_10, kr_1_11, kr_1_12, kr_1_13, kr_1_14, ax_a_419, ax_o_2, kr_2_0, kr_2_1, kr_2_2, kr_2_3, kr_2_4, ax_a_3, ax_a_4, ax_a_5, ax_a_6, ax_a_7, c107, ax_b0, h1]
    · rw [aq_283]
      simp (disch := first | assumption | omega) only [ax_gt, ax_gi, Option.bind_some, ax_gbl, ax_gb2, ax_gd, Int.reduceEq, Int.reduceNe, Int.reduceLT, Int.reduceLE, Int.reduceAdd, Int.reduceSub, Int.reduceMul, Int.reduceNeg, reduceIte, ite_true, ite_false, true_and, and_true, false_and, and_false, true_or, or_true, false_or, or_false, not_true_eq_false, not_false_eq_true, and_self, or_self, eq_self, ite_self, decide_true, decide_false, Bool.true_and, Bool.and_true, Bool.and_self, Bool.false_and, Int.add_zero, Int.zero_add, ax_o_447, m196, m143, ax_b0]
      split
      · rfl
      · rw [if_pos (by omega)]
theorem op_drink (a : RR M) {m : Int} : OP d M 212 226 [(0, m)] := by
  have hK := a.1
  have gB := RR_gB a
  have mB := RR_mB a
  have g := a.2.1.1
  have hT := a.2.1.2.1.1.1
  have hn := a.2.1.2.1.1.2.1
  have hd := a.2.1.2.2.1.2.2
  have C := RR_C a
  have B := RR_H a
  obtain ⟨P, W, cd, E, E2, S⟩ := RR_env a
  have c8 := fun d => c_8 (d := d) (t := m) hK gB
  rw [g.1.2.1] at c8
  have m196 := fun d => m_196 (d := d) (m := m) hK mB
  rw [← fl_at (M := M) (c := 448) (o := 60) (j := 156 + m) (k := 216 + m) (by omega)] at m196
  by_cases h1 : 0 ≤ m ∧ m < am_rd M 448 1
  · have c25 := fun d => c_25 (d := d) hK h88 C h1.1 (by omega)
    by_cases h3 : fl M 448 60 (156 + m) = 0
    · have B' := HB_Dr B hT.2 h1.1 (by omega)
      have hR1 : hDr (am_rd M 448 0) m (fl M 448 60) 162 = am_rd M 448 222 := by
        unfold hDr
        refine ax_fo_inv (P := fun _ (H : Int → Int) => H 162 = am_rd M 448 222) _ _ _ (fun t H t0 t1 hH => ?_) (fl_at (by omega))
        split
        · exact hH
        · simp (disch := omega) only [hR, hu, if_neg]; exact hH
      refine OP_st (r := 1) a B' (by rw [hR1]; exact hd) ?_ rfl ?_ rfl
      · obtain ⟨r1, Ma, e1, K1, k1, C1, g1⟩ := KP_get d a
        obtain ⟨r3, M3, e3, C3, F3⟩ := c_172 (d := d) K1 h88 C1 B hT.1 hT.2 h1.1 (by omega)
        rw [aq_212]
        simp (disch := first | assumption | omega) only [ax_gt, ax_gi, Option.bind_some, ax_gbl, ax_gb2, ax_gd, Int.reduceEq, Int.reduceNe, Int.reduceLT, Int.reduceLE, Int.reduceAdd, Int.reduceSub, Int.reduceMul, Int.reduceNeg, reduceIte, ite_true, ite_false, true_and, and_true, false_and, and_false, true_or, or_true, false_or, or_false, not_true_eq_false, not_false_eq_true, and_self, or_self, eq_self, ite_self, decide_true, decide_false, Bool.true_and, Bool.and_true, Bool.and_self, Bool.false_and, Int.add_zero, Int.zero_add, ax_rw, if_pos, if_neg, ax_o_1, kr_1_0, kr_1_1, kr_1_2, kr_1_3, kr_1_4, kr_1_5, kr_1_6, kr_1_7, kr_1_9, kr_1_10, kr_1_11, kr_1_12, kr_1_13, kr_1_14, ax_a_419, ax_o_2, kr_2_0, kr_2_1, kr_2_2, kr_2_3, kr_2_4, ax_a_3, ax_a_4, ax_a_5, ax_a_6, ax_a_7, ax_o_8, kr_8_0, kr_8_1, kr_8_2, kr_8_3, kr_8_4, ax_a_9, ax_a_10, ax_a_11, ax_a_12, ax_a_13, ax_o_55, kr_55_0, ax_q_56, c8, ax_b0, h1, c25, h3, e1, e3]
        exact ax_ok_some ⟨rfl, Ma, k1, F3, C3⟩
      · intro N hN D
        have mB' := DF_mB mB D
        have m196' := m_196 (d := d) (m := m) hN mB'
        rw [DF_r D, DF_r D, ← fl_at (M := M) (c := 448) (o := 60) (j := 156 + m) (k := 216 + m) (by omega)] at m196'
        obtain ⟨r5, M5, e5, k5⟩ := m_68' (d := d) hN mB'
        have K5 := ax_Kp e5 hN rfl
        have F5 := KM_FH (DF_fl D) k5 mB'.2.2.2.2.2.1
        obtain ⟨r6, M6, e6, F6, f6⟩ := m_158 (d := d) K5 F5 (KM_ME (DF_ME E2 D) k5 mB'.2.2.2.2.2.1) S B h1.1 (by omega)
        rw [aq_226]
        simp (disch := first | assumption | omega) only [ax_gt, ax_gi, Option.bind_some, ax_gbl, ax_gb2, ax_gd, Int.reduceEq, Int.reduceNe, Int.reduceLT, Int.reduceLE, Int.reduceAdd, Int.reduceSub, Int.reduceMul, Int.reduceNeg, reduceIte, ite_true, ite_false, true_and, and_true, false_and, and_false, true_or, or_true, false_or, or_false, not_true_eq_false, not_false_eq_true, and_self, or_self, eq_self, ite_self, decide_true, decide_false, Bool.true_and, Bool.and_true, Bool.and_self, Bool.false_and, Int.add_zero, Int.zero_add, ax_rw, if_pos, if_neg, ax_o_447, m196', ax_b0, h1, h3, e5, e6]
        exact ax_ok_some ⟨rfl, M5, k5, F6, f6⟩
    · refine ⟨0, M, M, ?_, ?_, a⟩
      · rw [aq_212]; simp (disch := first | assumption | omega) only [ax_gt, ax_gi, Option.bind_some, ax_gbl, ax_gb2, ax_gd, Int.reduceEq, Int.reduceNe, Int.reduceLT, Int.reduceLE, Int.reduceAdd, Int.reduceSub, Int.reduceMul, Int.reduceNeg, reduceIte, ite_true, ite_false, true_and, and_true, false_and, and_false, true_or, or_true, false_or, or_false, not_true_eq_false, not_false_eq_true, and_self, or_self, eq_self, ite_self, decide_true, decide_false, Bool.true_and, Bool.and_true, Bool.and_self, Bool.false_and, Int.add_zero, Int.zero_add, ax_rw, if_pos, if_neg, ax_o_1, kr_1_0, kr_1_1, kr_1_2, kr_1_3, kr_1_4, kr_1_5, kr_1_6, kr_1_7, kr_1_9, kr_1_10, kr_1_11, kr_1_12, kr_1_13, kr_1_14, ax_a_419, ax_o_2, kr_2_0, kr_2_1, kr_2_2, kr_2_3, kr_2_4, ax_a_3, ax_a_4, ax_a_5, ax_a_6, ax_a_7, ax_o_8, kr_8_0, kr_8_1, kr_8_2, kr_8_3, kr_8_4, ax_a_9, ax_a_10, ax_a_11, ax_a_12, ax_a_13, c8, ax_b0, h1, c25, h3]
      · rw [aq_226]; simp (disch := first | assumption | omega) only [ax_gt, ax_gi, Option.bind_some, ax_gbl, ax_gb2, ax_gd, Int.reduceEq, Int.reduceNe, Int.reduceLT, Int.reduceLE, Int.reduceAdd, Int.reduceSub, Int.reduceMul, Int.reduceNeg, reduceIte, ite_true, ite_false, true_and, and_true, false_and, and_false, true_or, or_true, false_or, or_false, not_true_eq_false, not_false_eq_true, and_self, or_self, eq_self, ite_self, decide_true, decide_false, Bool.true_and, Bool.and_true, Bool.and_self, Bool.false_and, Int.add_zero, Int.zero_add, ax_rw, if_pos, if_neg, ax_o_447, m196, ax_b0]
  · refine ⟨0, M, M, ?_, ?_, a⟩
    · rw [aq_212]; simp (disch := first | assumption | omega) only [ax_gt, ax_gi, Option.bind_some, ax_gbl, ax_gb2, ax_gd, Int.reduceEq, Int.reduceNe, Int.reduceLT, Int.reduceLE, Int.reduceAdd, Int.reduceSub, Int.reduceMul, Int.reduceNeg, reduceIte, ite_true, ite_false, true_and, and_true, false_and, and_false, true_or, or_true, false_or, or_false, not_true_eq_false, not_false_eq_true, and_self, or_self, eq_self, ite_self, decide_true, decide_false, Bool.true_and, Bool.and_true, Bool.and_self, Bool.false_and, Int.add_zero, Int.zero_add, ax_rw, if_pos, if_neg, ax_o_1, kr_1_0, kr_1_1, kr_1_2, kr_1_3, kr_1_4, kr_1_5, kr_1_6, kr_1_7, kr_1_9, kr_1_10, kr_1_11, kr_1_12, kr_1_13, kr_1_14, ax_a_419, ax_o_2, kr_2_0, kr_2_1, kr_2_2, kr_2_3, kr_2_4, ax_a_3, ax_a_4, ax_a_5, ax_a_6, ax_a_7, c8, ax_b0, h1]
    · rw [aq_226]; simp (disch := first | assumption | omega) only [ax_gt, ax_gi, Option.bind_some, ax_gbl, ax_gb2, ax_gd, Int.reduceEq, Int.reduceNe, Int.reduceLT, Int.reduceLE, Int.reduceAdd, Int.reduceSub, Int.reduceMul, Int.reduceNeg, reduceIte, ite_true, ite_false, true_and, and_true, false_and, and_false, true_or, or_true, false_or, or_false, not_true_eq_false, not_false_eq_true, and_self, or_self, eq_self, ite_self, decide_true, decide_false, Bool.true_and, Bool.and_true, Bool.and_self, Bool.false_and, Int.add_zero, Int.zero_add, ax_rw, if_pos, if_neg, ax_o_447, m196, ax_b0]
/-- one place of the hands is written -/
theorem RF_wr {N : am_M} {H : Int → Int} {j i v : Int} (F : FH N 448 60 H) (j0 : 0 ≤ j) (j1 : j < 164) (e : 60 + j = i) : FH (am_wr N 448 i v) 448 60 (hu H j v) ∧ RF N (am_wr N 448 i v) := by
  constructor
  · intro q q0 q1
    rw [ax_rw]
    unfold hu
    by_cases h : q = j
    · rw [if_pos (by omega), if_pos h]
    · rw [if_neg (by omega), if_neg h]; exact F q q0 q1
  · intro c x h1 h2 h3 h4 h5
    rw [ax_rw, if_neg (by omega)]
theorem op_sing (a : RR M) {m t k : Int} : OP d M 185 227 [(0, m), (0, t), (0, k)] := by
  have hK := a.1
  have gB := RR_gB a
  have mB := RR_mB a
  have g := a.2.1.1
  have hT := a.2.1.2.1.1.1
  have hn := a.2.1.2.1.1.2.1
  have hd := a.2.1.2.2.1.2.2
  have C := RR_C a
  have B := RR_H a
  have c107 := fun d => c_107 (d := d) (m := m) (t := t) hK gB
  rw [g.1.1, g.1.2.1] at c107
  have m196 := fun d => m_196 (d := d) (m := m) hK mB
  rw [← fl_at (M := M) (c := 448) (o := 60) (j := 156 + m) (k := 216 + m) (by omega)] at m196
  have m143 := fun d => m_143 (d := d) (t := t) hK mB
  have es : am_rd M 448 (204 + m) = fl M 448 60 (144 + m) := (fl_at (by omega)).symm
  by_cases h1 : (0 ≤ m ∧ m < am_rd M 448 1) ∧ (0 ≤ t ∧ t < am_rd M 448 0)
  · have c25 := fun d => c_25 (d := d) hK h88 C h1.1.1 (by omega)
    have c117 := fun d => c_117 (d := d) (t := t) hK h88 C h1.1.1 (by omega) h1.2.1 (by omega)
    by_cases h3 : fl M 448 60 (156 + m) = 0
    · by_cases h2 : ax_b (am_and (am_shr (fl M 448 60 (144 + m)) t) 1 = 1) = k
      · refine ⟨0, M, M, ?_, ?_, a⟩
        · rw [aq_185]; simp (disch := first | assumption | omega) only [ax_gt, ax_gi, Option.bind_some, ax_gbl, ax_gb2, ax_gd, Int.reduceEq, Int.reduceNe, Int.reduceLT, Int.reduceLE, Int.reduceAdd, Int.reduceSub, Int.reduceMul, Int.reduceNeg, reduceIte, ite_true, ite_false, true_and, and_true, false_and, and_false, true_or, or_true, false_or, or_false, not_true_eq_false, not_false_eq_true, and_self, or_self, eq_self, ite_self, decide_true, decide_false, Bool.true_and, Bool.and_true, Bool.and_self, Bool.false_and, Int.add_zero, Int.zero_add, ax_rw, if_pos, if_neg, ax_o_1, kr_1_0, kr_1_1, kr_1_2, kr_1_3, kr_1_4, kr_1_5, kr_1_6, kr_1_7, kr_1_9, kr_1_10, kr_1_11, kr_1_12, kr_1_13, kr_1_14, ax_a_419, ax_o_2, kr_2_0, kr_2_1, kr_2_2, kr_2_3, kr_2_4, ax_a_3, ax_a_4, ax_a_5, ax_a_6, ax_a_7, ax_o_8, kr_8_0, kr_8_1, kr_8_2, kr_8_3, kr_8_4, ax_a_9, ax_a_10, ax_a_11, ax_a_12, ax_a_13, c107, ax_b0, h1, c25, h3, c117, h2]
        · rw [aq_227]; simp (disch := first | assumption | omega) only [ax_gt, ax_gi, Option.bind_some, ax_gbl, ax_gb2, ax_gd, Int.reduceEq, Int.reduceNe, Int.reduceLT, Int.reduceLE, Int.reduceAdd, Int.reduceSub, Int.reduceMul, Int.reduceNeg, reduceIte, ite_true, ite_false, true_and, and_true, false_and, and_false, true_or, or_true, false_or, or_false, not_true_eq_false, not_false_eq_true, and_self, or_self, eq_self, ite_self, decide_true, decide_false, Bool.true_and, Bool.and_true, Bool.and_self, Bool.false_and, Int.add_zero, Int.zero_add, ax_rw, if_pos, if_neg, ax_w32, ax_o_447, ax_a_448, kr_447_0, m196, m143, ax_b0, h1, h3, m_65, es, h2]
      · have bs := B.2.1 m h1.1.1 (by omega)
        have xr := ax_xorr (t := t) bs.1.1 bs.1.2 h1.2.1 (by omega)
        have B' := HB_song B h1.1.1 (by omega) xr.1 xr.2
        refine OP_st (r := 1) a B' (by rw [hu_ne (by omega), fl_at (k := 222) (by omega)]; exact hd) ?_ rfl ?_ rfl
        · obtain ⟨r1, Ma, e1, K1, k1, C1, g1⟩ := KP_get d a
          obtain ⟨r3, M3, e3, C3, F3⟩ := c_121 (d := d) K1 h88 C1 h1.1.1 (by omega) h1.2.1 (by omega)
          rw [aq_185]
          simp (disch := first | assumption | omega) only [ax_gt, ax_gi, Option.bind_some, ax_gbl, ax_gb2, ax_gd, Int.reduceEq, Int.reduceNe, Int.reduceLT, Int.reduceLE, Int.reduceAdd, Int.reduceSub, Int.reduceMul, Int.reduceNeg, reduceIte, ite_true, ite_false, true_and, and_true, false_and, and_false, true_or, or_true, false_or, or_false, not_true_eq_false, not_false_eq_true, and_self, or_self, eq_self, ite_self, decide_true, decide_false, Bool.true_and, Bool.and_true, Bool.and_self, Bool.false_and, Int.add_zero, Int.zero_add, ax_rw, if_pos, if_neg, ax_o_1, kr_1_0, kr_1_1, kr_1_2, kr_1_3, kr_1_4, kr_1_5, kr_1_6, kr_1_7, kr_1_9, kr_1_10, kr_1_11, kr_1_12, kr_1_13, kr_1_14, ax_a_419, ax_o_2, kr_2_0, kr_2_1, kr_2_2, kr_2_3, kr_2_4, ax_a_3, ax_a_4, ax_a_5, ax_a_6, ax_a_7, ax_o_8, kr_8_0, kr_8_1, kr_8_2, kr_8_3, kr_8_4, ax_a_9, ax_a_10, ax_a_11, ax_a_12, ax_a_13, ax_o_55, kr_55_0, ax_q_56, c107, ax_b0, h1, c25, h3, c117, h2, e1, e3]
          exact ax_ok_some ⟨rfl, Ma, k1, F3, C3⟩
        · intro N hN D
          have mB' := DF_mB mB D
          have m196' := m_196 (d := d) (m := m) hN mB'
          rw [DF_r D, DF_r D, ← fl_at (M := M) (c := 448) (o := 60) (j := 156 + m) (k := 216 + m) (by omega)] at m196'
          have m143' := m_143 (d := d) (t := t) hN mB'
          rw [DF_r D] at m143'
          have es' : am_rd N 448 (204 + m) = fl M 448 60 (144 + m) := (DF_r D).trans es
          obtain ⟨r5, M5, e5, k5⟩ := m_68' (d := d) hN mB'
          have K5 := ax_Kp e5 hN rfl
          have F5 := KM_FH (DF_fl D) k5 mB'.2.2.2.2.2.1
          have g5 := F5 (144 + m) (by omega) (by omega)
          rw [show 60 + (144 + m) = 204 + m by omega] at g5
          have w := RF_wr (v := am_xor (fl M 448 60 (144 + m)) (am_shl 1 t)) F5 (j := 144 + m) (i := 204 + m) (by omega) (by omega) (by omega)
          rw [aq_227]
          simp (disch := first | assumption | omega) only [ax_gt, ax_gi, Option.bind_some, ax_gbl, ax_gb2, ax_gd, Int.reduceEq, Int.reduceNe, Int.reduceLT, Int.reduceLE, Int.reduceAdd, Int.reduceSub, Int.reduceMul, Int.reduceNeg, reduceIte, ite_true, ite_false, true_and, and_true, false_and, and_false, true_or, or_true, false_or, or_false, not_true_eq_false, not_false_eq_true, and_self, or_self, eq_self, ite_self, decide_true, decide_false, Bool.true_and, Bool.and_true, Bool.and_self, Bool.false_and, Int.add_zero, Int.zero_add, ax_rw, if_pos, if_neg, ax_w32, ax_o_447, ax_a_448, kr_447_0, m196', m143', ax_b0, h1, h3, m_65, es', h2, e5, g5, ax_let]
          exact ax_ok_some ⟨rfl, M5, k5, w.1, w.2⟩
    · refine ⟨0, M, M, ?_, ?_, a⟩
      · rw [aq_185]; simp (disch := first | assumption | omega) only [ax_gt, ax_gi, Option.bind_some, ax_gbl, ax_gb2, ax_gd, Int.reduceEq, Int.reduceNe, Int.reduceLT, Int.reduceLE, Int.reduceAdd, Int.reduceSub, Int.reduceMul, Int.reduceNeg, reduceIte, ite_true, ite_false, true_and, and_true, false_and, and_false, true_or, or_true, false_or, or_false, not_true_eq_false, not_false_eq_true, and_self, or_self, eq_self, ite_self, decide_true, decide_false, Bool.true_and, Bool.and_true, Bool.and_self, Bool.false_and, Int.add_zero, Int.zero_add, ax_rw, if_pos, if_neg, ax_o_1, kr_1_0, kr_1_1, kr_1_2, kr_1_3, kr_1_4, kr_1_5, kr_1_6, kr_1_7, kr_1_9, kr_1_10, kr_1_11, kr_1_12, kr_1_13, kr_1_14, ax_a_419, ax_o_2, kr_2_0, kr_2_1, kr_2_2, kr_2_3, kr_2_4, ax_a_3, ax_a_4, ax_a_5, ax_a_6, ax_a_7, ax_o_8, kr_8_0, kr_8_1, kr_8_2, kr_8_3, kr_8_4, ax_a_9, ax_a_10, ax_a_11, ax_a_12, ax_a_13, c107, ax_b0, h1, c25, h3]
      · rw [aq_227]; simp (disch := first | assumption | omega) only [ax_gt, ax_gi, Option.bind_some, ax_gbl, ax_gb2, ax_gd, Int.reduceEq, Int.reduceNe, Int.reduceLT, Int.reduceLE, Int.reduceAdd, Int.reduceSub, Int.reduceMul, Int.reduceNeg, reduceIte, ite_true, ite_false, true_and, and_true, false_and, and_false, true_or, or_true, false_or, or_false, not_true_eq_false, not_false_eq_true, and_self, or_self, eq_self, ite_self, decide_true, decide_false, Bool.true_and, Bool.and_true, Bool.and_self, Bool.false_and, Int.add_zero, Int.zero_add, ax_rw, if_pos, if_neg, ax_o_447, m196, ax_b0]
  · refine ⟨0, M, M, ?_, ?_, a⟩
    · rw [aq_185]; simp (disch := first | assumption | omega) only [ax_gt, ax_gi, Option.bind_some, ax_gbl, ax_gb2, ax_gd, Int.reduceEq, Int.reduceNe, Int.reduceLT, Int.reduceLE, Int.reduceAdd, Int.reduceSub, Int.reduceMul, Int.reduceNeg, reduceIte, ite_true, ite_false, true_and, and_true, false_and, and_false, true_or, or_true, false_or, or_false, not_true_eq_false, not_false_eq_true, and_self, or_self, eq_self, ite_self, decide_true, decide_false, Bool.true_and, Bool.and_true, Bool.and_self, Bool.false_and, Int.add_zero, Int.zero_add, ax_rw, if_pos, if_neg, ax_o_1, kr_1_0, kr_1_1, kr_1_2, kr_1_3, kr_1_4, kr_1_5, kr_1_6, kr_1_7, kr_1_9, kr_1_10, kr_1_11, kr_1_12, kr_1_13, kr_1_14, ax_a_419, ax_o_2, kr_2_0, kr_2_1, kr_2_2, kr_2_3, kr_2_4, ax_a_3, ax_a_4, ax_a_5, ax_a_6, ax_a_7, c107, ax_b0, h1]
    · rw [aq_227]
      simp (disch := first | assumption | omega) only [ax_gt, ax_gi, Option.bind_some, ax_gbl, ax_gb2, ax_gd, Int.reduceEq, Int.reduceNe, Int.reduceLT, Int.reduceLE, Int.reduceAdd, Int.reduceSub, Int.reduceMul, Int.reduceNeg, reduceIte, ite_true, ite_false, true_and, and_true, false_and, and_false, true_or, or_true, false_or, or_false, not_true_eq_false, not_false_eq_true, and_self, or_self, eq_self, ite_self, decide_true, decide_false, Bool.true_and, Bool.and_true, Bool.and_self, Bool.false_and, Int.add_zero, Int.zero_add, ax_o_447, m196, m143, ax_b0]
      split
      · rfl
      · rw [if_pos (by omega)]
theorem op_tie (a : RR M) {m t : Int} : OP d M 186 228 [(0, m), (0, t)] := by
  have hK := a.1
  have gB := RR_gB a
  have mB := RR_mB a
  have g := a.2.1.1
  have hT := a.2.1.2.1.1.1
  have hn := a.2.1.2.1.1.2.1
  have hd := a.2.1.2.2.1.2.2
  have C := RR_C a
  have B := RR_H a
  have c107 := fun d => c_107 (d := d) (m := m) (t := t) hK gB
  rw [g.1.1, g.1.2.1] at c107
  have c8 := fun d => c_8 (d := d) (t := m) hK gB
  rw [g.1.2.1] at c8
  have m196 := fun d => m_196 (d := d) (m := m) hK mB
  rw [← fl_at (M := M) (c := 448) (o := 60) (j := 156 + m) (k := 216 + m) (by omega)] at m196
  have m143 := fun d => m_143 (d := d) (t := t) hK mB
  have es : am_rd M 448 (210 + m) = fl M 448 60 (150 + m) := (fl_at (by omega)).symm
  by_cases h1 : (0 ≤ m ∧ m < am_rd M 448 1) ∧ (t = -1 ∨ (0 ≤ t ∧ t < am_rd M 448 0))
  · have c25 := fun d => c_25 (d := d) hK h88 C h1.1.1 (by omega)
    have c24 := fun d => c_24 (d := d) hK h88 C h1.1.1 (by omega)
    by_cases h3 : fl M 448 60 (156 + m) = 0
    · by_cases h2 : fl M 448 60 (150 + m) = t
      · refine ⟨0, M, M, ?_, ?_, a⟩
        · rw [aq_186]
          by_cases ht : t = -1
          · simp (disch := first | assumption | omega) only [ax_gt, ax_gi, Option.bind_some, ax_gbl, ax_gb2, ax_gd, Int.reduceEq, Int.reduceNe, Int.reduceLT, Int.reduceLE, Int.reduceAdd, Int.reduceSub, Int.reduceMul, Int.reduceNeg, reduceIte, ite_true, ite_false, true_and, and_true, false_and, and_false, true_or, or_true, false_or, or_false, not_true_eq_false, not_false_eq_true, and_self, or_self, eq_self, ite_self, decide_true, decide_false, Bool.true_and, Bool.and_true, Bool.and_self, Bool.false_and, Int.add_zero, Int.zero_add, ax_rw, if_pos, if_neg, ax_o_1, kr_1_0, kr_1_1, kr_1_2, kr_1_3, kr_1_4, kr_1_5, kr_1_6, kr_1_7, kr_1_9, kr_1_10, kr_1_11, kr_1_12, kr_1_13, kr_1_14, ax_a_419, ax_o_2, kr_2_0, kr_2_1, kr_2_2, kr_2_3, kr_2_4, ax_a_3, ax_a_4, ax_a_5, ax_a_6, ax_a_7, ax_o_8, kr_8_0, kr_8_1, kr_8_2, kr_8_3, kr_8_4, ax_a_9, ax_a_10, ax_a_11, ax_a_12, ax_a_13, c8, ax_b0, h1, c25, h3, c24, h2]
          · simp (disch := first | assumption | omega) only [ax_gt, ax_gi, Option.bind_some, ax_gbl, ax_gb2, ax_gd, Int.reduceEq, Int.reduceNe, Int.reduceLT, Int.reduceLE, Int.reduceAdd, Int.reduceSub, Int.reduceMul, Int.reduceNeg, reduceIte, ite_true, ite_false, true_and, and_true, false_and, and_false, true_or, or_true, false_or, or_false, not_true_eq_false, not_false_eq_true, and_self, or_self, eq_self, ite_self, decide_true, decide_false, Bool.true_and, Bool.and_true, Bool.and_self, Bool.false_and, Int.add_zero, Int.zero_add, ax_rw, if_pos, if_neg, ax_o_1, kr_1_0, kr_1_1, kr_1_2, kr_1_3, kr_1_4, kr_1_5, kr_1_6, kr_1_7, kr_1_9, kr_1_10, kr_1_11, kr_1_12, kr_1_13, kr_1_14, ax_a_419, ax_o_2, kr_2_0, kr_2_1, kr_2_2, kr_2_3, kr_2_4, ax_a_3, ax_a_4, ax_a_5, ax_a_6, ax_a_7, ax_o_8, kr_8_0, kr_8_1, kr_8_2, kr_8_3, kr_8_4, ax_a_9, ax_a_10, ax_a_11, ax_a_12, ax_a_13, c107, ax_b0, h1, c25, h3, c24, h2]
        · rw [aq_228]
          simp only [aq_228_12]
          by_cases ht : t = -1
          · simp (disch := first | assumption | omega) only [ax_gt, ax_gi, Option.bind_some, ax_gbl, ax_gb2, ax_gd, Int.reduceEq, Int.reduceNe, Int.reduceLT, Int.reduceLE, Int.reduceAdd, Int.reduceSub, Int.reduceMul, Int.reduceNeg, reduceIte, ite_true, ite_false, true_and, and_true, false_and, and_false, true_or, or_true, false_or, or_false, not_true_eq_false, not_false_eq_true, and_self, or_self, eq_self, ite_self, decide_true, decide_false, Bool.true_and, Bool.and_true, Bool.and_self, Bool.false_and, Int.add_zero, Int.zero_add, ax_rw, if_pos, if_neg, ax_w32, ax_o_447, ax_a_448, kr_447_0, m196, ax_b0, h1, h3, es, h2]
          · simp (disch := first | assumption | omega) only [ax_gt, ax_gi, Option.bind_some, ax_gbl, ax_gb2, ax_gd, Int.reduceEq, Int.reduceNe, Int.reduceLT, Int.reduceLE, Int.reduceAdd, Int.reduceSub, Int.reduceMul, Int.reduceNeg, reduceIte, ite_true, ite_false, true_and, and_true, false_and, and_false, true_or, or_true, false_or, or_false, not_true_eq_false, not_false_eq_true, and_self, or_self, eq_self, ite_self, decide_true, decide_false, Bool.true_and, Bool.and_true, Bool.and_self, Bool.false_and, Int.add_zero, Int.zero_add, ax_rw, if_pos, if_neg, ax_w32, ax_o_447, ax_a_448, kr_447_0, m196, m143, ax_b0, h1, h3, es, h2]
      · have B' := HB_tie (v := t) B h1.1.1 (by omega) (by omega) (by omega)
        refine OP_st (r := 1) a B' (by rw [hu_ne (by omega), fl_at (k := 222) (by omega)]; exact hd) ?_ rfl ?_ rfl
        · obtain ⟨r1, Ma, e1, K1, k1, C1, g1⟩ := KP_get d a
          obtain ⟨r3, M3, e3, C3, F3⟩ := c_26 (d := d) (t := t) K1 C1 h1.1.1 (by omega) h1.1.2
          rw [aq_186]
          by_cases ht : t = -1
          · simp (disch := first | assumption | omega) only [ax_gt, ax_gi, Option.bind_some, ax_gbl, ax_gb2, ax_gd, Int.reduceEq, Int.reduceNe, Int.reduceLT, Int.reduceLE, Int.reduceAdd, Int.reduceSub, Int.reduceMul, Int.reduceNeg, reduceIte, ite_true, ite_false, true_and, and_true, false_and, and_false, true_or, or_true, false_or, or_false, not_true_eq_false, not_false_eq_true, and_self, or_self, eq_self, ite_self, decide_true, decide_false, Bool.true_and, Bool.and_true, Bool.and_self, Bool.false_and, Int.add_zero, Int.zero_add, ax_rw, if_pos, if_neg, ax_o_1, kr_1_0, kr_1_1, kr_1_2, kr_1_3, kr_1_4, kr_1_5, kr_1_6, kr_1_7, kr_1_9, kr_1_10, kr_1_11, kr_1_12, kr_1_13, kr_1_14, ax_a_419, ax_o_2, kr_2_0, kr_2_1, kr_2_2, kr_2_3, kr_2_4, ax_a_3, ax_a_4, ax_a_5, ax_a_6, ax_a_7, ax_o_8, kr_8_0, kr_8_1, kr_8_2, kr_8_3, kr_8_4, ax_a_9, ax_a_10, ax_a_11, ax_a_12, ax_a_13, ax_o_55, kr_55_0, ax_q_56, c8, ax_b0, h1, c25, h3, c24, h2, e1, e3]
            exact ax_ok_some ⟨rfl, Ma, k1, F3, C3⟩
          · simp (disch := first | assumption | omega) only [ax_gt, ax_gi, Option.bind_some, ax_gbl, ax_gb2, ax_gd, Int.reduceEq, Int.reduceNe, Int.reduceLT, Int.reduceLE, Int.reduceAdd, Int.reduceSub, Int.reduceMul, Int.reduceNeg, reduceIte, ite_true, ite_false, true_and, and_true, false_and, and_false, true_or, or_true, false_or, or_false, not_true_eq_false, not_false_eq_true, and_self, or_self, eq_self, ite_self, decide_true, decide_false, Bool.true_and, Bool.and_true, Bool.and_self, Bool.false_and, Int.add_zero, Int.zero_add, ax_rw, if_pos, if_neg, ax_o_1, kr_1_0, kr_1_1, kr_1_2, kr_1_3, kr_1_4, kr_1_5, kr_1_6, kr_1_7, kr_1_9, kr_1_10, kr_1_11, kr_1_12, kr_1_13, kr_1_14, ax_a_419, ax_o_2, kr_2_0, kr_2_1, kr_2_2, kr_2_3, kr_2_4, ax_a_3, ax_a_4, ax_a_5, ax_a_6, ax_a_7, ax_o_8, kr_8_0, kr_8_1, kr_8_2, kr_8_3, kr_8_4, ax_a_9, ax_a_10, ax_a_11, ax_a_12, ax_a_13, ax_o_55, kr_55_0, ax_q_56, c107, ax_b0, h1, c25, h3, c24, h2, e1, e3]
            exact ax_ok_some ⟨rfl, Ma, k1, F3, C3⟩
        · intro N hN D
          have mB' := DF_mB mB D
          have m196' := m_196 (d := d) (m := m) hN mB'
          rw [DF_r D, DF_r D, ← fl_at (M := M) (c := 448) (o := 60) (j := 156 + m) (k := 216 + m) (by omega)] at m196'
          have m143' := m_143 (d := d) (t := t) hN mB'
          rw [DF_r D] at m143'
          have es' : am_rd N 448 (210 + m) = fl M 448 60 (150 + m) := (DF_r D).trans es
          obtain ⟨r5, M5, e5, k5⟩ := m_68' (d := d) hN mB'
          have K5 := ax_Kp e5 hN rfl
          have F5 := KM_FH (DF_fl D) k5 mB'.2.2.2.2.2.1
          have w := RF_wr (v := t) F5 (j := 150 + m) (i := 210 + m) (by omega) (by omega) (by omega)
          rw [aq_228]
          simp only [aq_228_12]
          by_cases ht : t = -1
          · simp (disch := first | assumption | omega) only [ax_gt, ax_gi, Option.bind_some, ax_gbl, ax_gb2, ax_gd, Int.reduceEq, Int.reduceNe, Int.reduceLT, Int.reduceLE, Int.reduceAdd, Int.reduceSub, Int.reduceMul, Int.reduceNeg, reduceIte, ite_true, ite_false, true_and, and_true, false_and, and_false, true_or, or_true, false_or, or_false, not_true_eq_false, not_false_eq_true, and_self, or_self, eq_self, ite_self, decide_true, decide_false, Bool.true_and, Bool.and_true, Bool.and_self, Bool.false_and, Int.add_zero, Int.zero_add, ax_rw, if_pos, if_neg, ax_w32, ax_o_447, ax_a_448, kr_447_0, m196', ax_b0, h1, h3, es', h2, e5, ax_let]
            exact ax_ok_some ⟨rfl, M5, k5, w.1, w.2⟩
          · simp (disch := first | assumption | omega) only [ax_gt, ax_gi, Option.bind_some, ax_gbl, ax_gb2, ax_gd, Int.reduceEq, Int.reduceNe, Int.reduceLT, Int.reduceLE, Int.reduceAdd, Int.reduceSub, Int.reduceMul, Int.reduceNeg, reduceIte, ite_true, ite_false, true_and, and_true, false_and, and_false, true_or, or_true, false_or, or_false, not_true_eq_false, not_false_eq_true, and_self, or_self, eq_self, ite_self, decide_true, decide_false, Bool.true_and, Bool.and_true, Bool.and_self, Bool.false_and, Int.add_zero, Int.zero_add, ax_rw, if_pos, if_neg, ax_w32, ax_o_447, ax_a_448, kr_447_0, m196', m143', ax_b0, h1, h3, es', h2, e5, ax_let]
            exact ax_ok_some ⟨rfl, M5, k5, w.1, w.2⟩
    · refine ⟨0, M, M, ?_, ?_, a⟩
      · rw [aq_186]
        by_cases ht : t = -1
        · simp (disch := first | assumption | omega) only [ax_gt, ax_gi, Option.bind_some, ax_gbl, ax_gb2, ax_gd, Int.reduceEq, Int.reduceNe, Int.reduceLT, Int.reduceLE, Int.reduceAdd, Int.reduceSub, Int.reduceMul, Int.reduceNeg, reduceIte, ite_true, ite_false, true_and, and_true, false_and, and_false, true_or, or_true, false_or, or_false, not_true_eq_false, not_false_eq_true, and_self, or_self, eq_self, ite_self, decide_true, decide_false, Bool.true_and, Bool.and_true, Bool.and_self, Bool.false_and, Int.add_zero, Int.zero_add, ax_rw, if_pos, if_neg, ax_o_1, kr_1_0, kr_1_1, kr_1_2, kr_1_3, kr_1_4, kr_1_5, kr_1_6, kr_1_7, kr_1_9, kr_1_10, kr_1_11, kr_1_12, kr_1_13, kr_1_14, ax_a_419, ax_o_2, kr_2_0, kr_2_1, kr_2_2, kr_2_3, kr_2_4, ax_a_3, ax_a_4, ax_a_5, ax_a_6, ax_a_7, ax_o_8, kr_8_0, kr_8_1, kr_8_2, kr_8_3, kr_8_4, ax_a_9, ax_a_10, ax_a_11, ax_a_12, ax_a_13, c8, ax_b0, h1, c25, h3]
        · simp (disch := first | assumption | omega) only [ax_gt, ax_gi, Option.bind_some, ax_gbl, ax_gb2, ax_gd, Int.reduceEq, Int.reduceNe, Int.reduceLT, Int.reduceLE, Int.reduceAdd, Int.reduceSub, Int.reduceMul, Int.reduceNeg, reduceIte, ite_true, ite_false, true_and, and_true, false_and, and_false, true_or, or_true, false_or, or_false, not_true_eq_false, not_false_eq_true, and_self, or_self, eq_self, ite_self, decide_true, decide_false, Bool.true_and, Bool.and_true, Bool.and_self, Bool.false_and, Int.add_zero, Int.zero_add, ax_rw, if_pos, if_neg, ax_o_1, kr_1_0, kr_1_1, kr_1_2, kr_1_3, kr_1_4, kr_1_5, kr_1_6, kr_1_7, kr_1_9, kr_1_10, kr_1_11, kr_1_12, kr_1_13, kr_1_14, ax_a_419, ax_o_2, kr_2_0, kr_2_1, kr_2_2, kr_2_3, kr_2_4, ax_a_3, ax_a_4, ax_a_5, ax_a_6, ax_a_7, ax_o_8, kr_8_0, kr_8_1, kr_8_2, kr_8_3, kr_8_4, ax_a_9, ax_a_10, ax_a_11, ax_a_12, ax_a_13, c107, ax_b0, h1, c25, h3]
      · rw [aq_228]; simp (disch := first | assumption | omega) only [ax_gt, ax_gi, Option.bind_some, ax_gbl, ax_gb2, ax_gd, Int.reduceEq, Int.reduceNe, Int.reduceLT, Int.reduceLE, Int.reduceAdd, Int.reduceSub, Int.reduceMul, Int.reduceNeg, reduceIte, ite_true, ite_false, true_and, and_true, false_and, and_false, true_or, or_true, false_or, or_false, not_true_eq_false, not_false_eq_true, and_self, or_self, eq_self, ite_self, decide_true, decide_false, Bool.true_and, Bool.and_true, Bool.and_self, Bool.false_and, Int.add_zero, Int.zero_add, ax_rw, if_pos, if_neg, ax_o_447, m196, ax_b0]
  · refine ⟨0, M, M, ?_, ?_, a⟩
    · rw [aq_186]
      by_cases ht : t = -1
      · simp (disch := first | assumption | omega) only [ax_gt, ax_gi, Option.bind_some, ax_gbl, ax_gb2, ax_gd, Int.reduceEq, Int.reduceNe, Int.reduceLT, Int.reduceLE, Int.reduceAdd, Int.reduceSub, Int.reduceMul, Int.reduceNeg, reduceIte, ite_true, ite_false, true_and, and_true, false_and, and_false, true_or, or_true, false_or, or_false, not_true_eq_false, not_false_eq_true, and_self, or_self, eq_self, ite_self, decide_true, decide_false, Bool.true_and, Bool.and_true, Bool.and_self, Bool.false_and, Int.add_zero, Int.zero_add, ax_rw, if_pos, if_neg, ax_o_1, kr_1_0, kr_1_1, kr_1_2, kr_1_3, kr_1_4, kr_1_5, kr_1_6, kr_1_7, kr_1_9, kr_1_10, kr_1_11, kr_1_12, kr_1_13, kr_1_14, ax_a_419, ax_o_2, kr_2_0, kr_2_1, kr_2_2, kr_2_3, kr_2_4, ax_a_3, ax_a_4, ax_a_5, ax_a_6, ax_a_7, c8, ax_b0, h1]
      · simp (disch := first | assumption | omega) only [ax_gt, ax_gi, Option.bind_some, ax_gbl, ax_gb2, ax_gd, Int.reduceEq, Int.reduceNe, Int.reduceLT, Int.reduceLE, Int.reduceAdd, Int.reduceSub, Int.reduceMul, Int.reduceNeg, reduceIte, ite_true, ite_false, true_and, and_true, false_and, and_false, true_or, or_true, false_or, or_false, not_true_eq_false, not_false_eq_true, and_self, or_self, eq_self, ite_self, decide_true, decide_false, Bool.true_and, Bool.and_true, Bool.and_self, Bool.false_and, Int.add_zero, Int.zero_add, ax_rw, if_pos, if_neg, ax_o_1, kr_1_0, kr_1_1, kr_1_2, kr_1_3, kr_1_4, kr_1_5, kr_1_6, kr_1_7, kr_1_9, kr_1_10, kr_1_11, kr_1_12, kr_1_13, kr_1_14, ax_a_419, ax_o_2, kr_2_0, kr_2_1, kr_2_2, kr_2_3, kr_2_4, ax_a_3, ax_a_4, ax_a_5, ax_a_6, ax_a_7, c107, ax_b0, h1]
    · rw [aq_228]
      by_cases hm : (0 ≤ m ∧ m < am_rd M 448 1) ∧ fl M 448 60 (156 + m) = 0
      · simp (disch := first | assumption | omega) only [ax_gt, ax_gi, Option.bind_some, ax_gbl, ax_gb2, ax_gd, Int.reduceEq, Int.reduceNe, Int.reduceLT, Int.reduceLE, Int.reduceAdd, Int.reduceSub, Int.reduceMul, Int.reduceNeg, reduceIte, ite_true, ite_false, true_and, and_true, false_and, and_false, true_or, or_true, false_or, or_false, not_true_eq_false, not_false_eq_true, and_self, or_self, eq_self, ite_self, decide_true, decide_false, Bool.true_and, Bool.and_true, Bool.and_self, Bool.false_and, Int.add_zero, Int.zero_add, ax_rw, if_pos, if_neg, ax_o_447, m196, m143, ax_b0]
      · simp (disch := first | assumption | omega) only [ax_gt, ax_gi, Option.bind_some, ax_gbl, ax_gb2, ax_gd, Int.reduceEq, Int.reduceNe, Int.reduceLT, Int.reduceLE, Int.reduceAdd, Int.reduceSub, Int.reduceMul, Int.reduceNeg, reduceIte, ite_true, ite_false, true_and, and_true, false_and, and_false, true_or, or_true, false_or, or_false, not_true_eq_false, not_false_eq_true, and_self, or_self, eq_self, ite_self, decide_true, decide_false, Bool.true_and, Bool.and_true, Bool.and_self, Bool.false_and, Int.add_zero, Int.zero_add, ax_rw, if_pos, if_neg, ax_o_447, m196, ax_b0]
theorem op_tried (a : RR M) {m : Int} : OP d M 261 284 [(0, m)] := by
  have hK := a.1
  have gB := RR_gB a
  have mB := RR_mB a
  have g := a.2.1.1
  have bT := a.2.1.2.1.1.1
  have hn := a.2.1.2.1.1.2.1
  have hd := a.2.1.2.2.1.2.2
  have C := RR_C a
  have B := RR_H a
  obtain ⟨P, W, cd, E, E2, S⟩ := RR_env a
  have c8 := fun d => c_8 (d := d) (t := m) hK gB
  rw [g.1.2.1] at c8
  have m196 := fun d => m_196 (d := d) (m := m) hK mB
  rw [← fl_at (M := M) (c := 448) (o := 60) (j := 156 + m) (k := 216 + m) (by omega)] at m196
  by_cases h1 : 0 ≤ m ∧ m < am_rd M 448 1
  · have c25 := fun d => c_25 (d := d) hK h88 C h1.1 (by omega)
    by_cases h3 : fl M 448 60 (156 + m) = 0
    · have B' := HB_T (al := am_rd M 448 7) (P := P) (W := W) (cd := cd) B h1.1 (by omega)
      have hR1 : ∀ j, j ≠ 156 + m → hT (am_rd M 448 0) (am_rd M 448 7) P W cd m (fl M 448 60) j = fl M 448 60 j := by
        intro j hj
        unfold hT
        split
        · exact hu_ne hj
        · rfl
      refine OP_st (r := ax_cn (hHad (am_rd M 448 0) P W cd (fl M 448 60) m)) a B' (by rw [hR1 _ (by omega), fl_at (k := 222) (by omega)]; exact hd) ?_ rfl ?_ rfl
      · obtain ⟨r1, Ma, e1, K1, k1, C1, g1⟩ := KP_get d a
        obtain ⟨r3, M3, e3, q3, C3, F3⟩ := c_235 (d := d) K1 h88 C1 (CE_same E g1) S B h1.1 h1.2
        rw [aq_261]
        simp (disch := first | assumption | omega) only [ax_gt, ax_gi, Option.bind_some, ax_gbl, ax_gb2, ax_gd, Int.reduceEq, Int.reduceNe, Int.reduceLT, Int.reduceLE, Int.reduceAdd, Int.reduceSub, Int.reduceMul, Int.reduceNeg, reduceIte, ite_true, ite_false, true_and, and_true, false_and, and_false, true_or, or_true, false_or, or_false, not_true_eq_false, not_false_eq_true, and_self, or_self, eq_self, ite_self, decide_true, decide_false, Bool.true_and, Bool.and_true, Bool.and_self, Bool.false_and, Int.add_zero, Int.zero_add, ax_rw, if_pos, if_neg, ax_o_1, kr_1_0, kr_1_1, kr_1_2, kr_1_3, kr_1_4, kr_1_5, kr_1_6, kr_1_7, kr_1_9, kr_1_10, kr_1_11, kr_1_12, kr_1_13, kr_1_14, ax_a_419, ax_o_2, kr_2_0, kr_2_1, kr_2_2, kr_2_3, kr_2_4, ax_a_3, ax_a_4, ax_a_5, ax_a_6, ax_a_7, ax_o_8, kr_8_0, kr_8_1, kr_8_2, kr_8_3, kr_8_4, ax_a_9, ax_a_10, ax_a_11, ax_a_12, ax_a_13, ax_o_42, kr_42_0, kr_42_1, ax_o_55, kr_55_0, ax_q_56, c8, ax_b0, h1, c25, h3, e1, e3]
        exact ax_ok_some ⟨q3, Ma, k1, F3, C3⟩
      · intro N hN D
        have mB' := DF_mB mB D
        have m196' := m_196 (d := d) (m := m) hN mB'
        rw [DF_r D, DF_r D, ← fl_at (M := M) (c := 448) (o := 60) (j := 156 + m) (k := 216 + m) (by omega)] at m196'
        obtain ⟨r5, M5, e5, k5⟩ := m_68' (d := d) hN mB'
        have K5 := ax_Kp e5 hN rfl
        have F5 := KM_FH (DF_fl D) k5 mB'.2.2.2.2.2.1
        have E5 := KM_ME (DF_ME E2 D) k5 mB'.2.2.2.2.2.1
        obtain ⟨r6, M6, e6, C6, F6⟩ := m_88 (d := d) K5 F5
        have K6 := ax_Kp e6 K5 rfl
        obtain ⟨r7, M7, e7, q7, C7, F7⟩ := m_265 (d := d) K6 C6 (NF_ME E5 F6) S B h1.1 (by omega) h3
        have K7 := ax_Kp e7 K6 rfl
        obtain ⟨r8, M8, e8, g8, g9⟩ := m_89 (d := d) K7 C7
        have kk := m_keep F5 (NF_trans F6 F7) g8 g9 (hR1 163 (by omega))
        rw [aq_284]
        simp (disch := first | assumption | omega) only [ax_gt, ax_gi, Option.bind_some, ax_gbl, ax_gb2, ax_gd, Int.reduceEq, Int.reduceNe, Int.reduceLT, Int.reduceLE, Int.reduceAdd, Int.reduceSub, Int.reduceMul, Int.reduceNeg, reduceIte, ite_true, ite_false, true_and, and_true, false_and, and_false, true_or, or_true, false_or, or_false, not_true_eq_false, not_false_eq_true, and_self, or_self, eq_self, ite_self, decide_true, decide_false, Bool.true_and, Bool.and_true, Bool.and_self, Bool.false_and, Int.add_zero, Int.zero_add, ax_rw, if_pos, if_neg, ax_o_447, m196', ax_b0, h1, h3, e5, e6, e7, e8]
        exact ax_ok_some ⟨q7, M5, k5, kk.1, kk.2⟩
    · refine ⟨-1, M, M, ?_, ?_, a⟩
      · rw [aq_261]; simp (disch := first | assumption | omega) only [ax_gt, ax_gi, Option.bind_some, ax_gbl, ax_gb2, ax_gd, Int.reduceEq, Int.reduceNe, Int.reduceLT, Int.reduceLE, Int.reduceAdd, Int.reduceSub, Int.reduceMul, Int.reduceNeg, reduceIte, ite_true, ite_false, true_and, and_true, false_and, and_false, true_or, or_true, false_or, or_false, not_true_eq_false, not_false_eq_true, and_self, or_self, eq_self, ite_self, decide_true, decide_false, Bool.true_and, Bool.and_true, Bool.and_self, Bool.false_and, Int.add_zero, Int.zero_add, ax_rw, if_pos, if_neg, ax_o_1, kr_1_0, kr_1_1, kr_1_2, kr_1_3, kr_1_4, kr_1_5, kr_1_6, kr_1_7, kr_1_9, kr_1_10, kr_1_11, kr_1_12, kr_1_13, kr_1_14, ax_a_419, ax_o_2, kr_2_0, kr_2_1, kr_2_2, kr_2_3, kr_2_4, ax_a_3, ax_a_4, ax_a_5, ax_a_6, ax_a_7, ax_o_8, kr_8_0, kr_8_1, kr_8_2, kr_8_3, kr_8_4, ax_a_9, ax_a_10, ax_a_11, ax_a_12, ax_a_13, c8, ax_b0, h1, c25, h3]
      · rw [aq_284]; simp (disch := first | assumption | omega) only [ax_gt, ax_gi, Option.bind_some, ax_gbl, ax_gb2, ax_gd, Int.reduceEq, Int.reduceNe, Int.reduceLT, Int.reduceLE, Int.reduceAdd, Int.reduceSub, Int.reduceMul, Int.reduceNeg, reduceIte, ite_true, ite_false, true_and, and_true, false_and, and_false, true_or, or_true, false_or, or_false, not_true_eq_false, not_false_eq_true, and_self, or_self, eq_self, ite_self, decide_true, decide_false, Bool.true_and, Bool.and_true, Bool.and_self, Bool.false_and, Int.add_zero, Int.zero_add, ax_rw, if_pos, if_neg, ax_o_447, m196, ax_b0]
  · refine ⟨-1, M, M, ?_, ?_, a⟩
    · rw [aq_261]; simp (disch := first | assumption | omega) only [ax_gt, ax_gi, Option.bind_some, ax_gbl, ax_gb2, ax_gd, Int.reduceEq, Int.reduceNe, Int.reduceLT, Int.reduceLE, Int.reduceAdd, Int.reduceSub, Int.reduceMul, Int.reduceNeg, reduceIte, ite_true, ite_false, true_and, and_true, false_and, and_false, true_or, or_true, false_or, or_false, not_true_eq_false, not_false_eq_true, and_self, or_self, eq_self, ite_self, decide_true, decide_false, Bool.true_and, Bool.and_true, Bool.and_self, Bool.false_and, Int.add_zero, Int.zero_add, ax_rw, if_pos, if_neg, ax_o_1, kr_1_0, kr_1_1, kr_1_2, kr_1_3, kr_1_4, kr_1_5, kr_1_6, kr_1_7, kr_1_9, kr_1_10, kr_1_11, kr_1_12, kr_1_13, kr_1_14, ax_a_419, ax_o_2, kr_2_0, kr_2_1, kr_2_2, kr_2_3, kr_2_4, ax_a_3, ax_a_4, ax_a_5, ax_a_6, ax_a_7, c8, ax_b0, h1]
    · rw [aq_284]; simp (disch := first | assumption | omega) only [ax_gt, ax_gi, Option.bind_some, ax_gbl, ax_gb2, ax_gd, Int.reduceEq, Int.reduceNe, Int.reduceLT, Int.reduceLE, Int.reduceAdd, Int.reduceSub, Int.reduceMul, Int.reduceNeg, reduceIte, ite_true, ite_false, true_and, and_true, false_and, and_false, true_or, or_true, false_or, or_false, not_true_eq_false, not_false_eq_true, and_self, or_self, eq_self, ite_self, decide_true, decide_false, Bool.true_and, Bool.and_true, Bool.and_self, Bool.false_and, Int.add_zero, Int.zero_add, ax_rw, if_pos, if_neg, ax_o_447, m196, ax_b0]
end
