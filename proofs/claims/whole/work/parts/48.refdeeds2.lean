/-! deeds on the model's side -/
section
variable {M : am_M} {d : Nat} {T n al m t k : Int} {P W H : Int → Int} {cd : Int → Option (List (Int × Int))}
theorem m_252s (hK : ax_K M) (C : NH M H) (E : ME M T n al P W cd) (S : ES T n al P W cd) (B : HB T H) (m0 : 0 ≤ m) (m2 : m < 6) (t0 : 0 ≤ t) (t1 : t < T) : ∃ M', am_Ex d 252 3 [(2, 447), (0, m), (0, t), am_N, am_N] [] M = am_Ex d 252 3 [(2, 447), (0, m), (0, t + 1), am_N, am_N] [] M' ∧ ax_K M' ∧ NH M' (hF P W cd m t H) ∧ NF M M' := by
  have hT := S.1
  have t2 : t < 8 := by omega
  have bb := B.1 (8 * m + t) (by omega) (by omega)
  have NN := lx_nmN (k := 0) S B m0 m2 t0 t2 (by omega) (by omega)
  have h8 : lx_nm P W H m t 0 8 = 0 := by unfold lx_nm; simp only [Int.reduceEq, Int.reduceNe, Int.reduceLT, Int.reduceLE, Int.reduceAdd, Int.reduceSub, Int.reduceMul, Int.reduceNeg, reduceIte, ite_true, ite_false, true_and, and_true, false_and, and_false, true_or, or_true, false_or, or_false, not_true_eq_false, not_false_eq_true, and_self, or_self, eq_self, ite_self, decide_true, decide_false, Bool.true_and, Bool.and_true, Bool.and_self, Bool.false_and, Int.add_zero, Int.zero_add]
  have v1 := lx_valr (k := 1) S NN (by omega) (by omega) (by omega)
  have v2 := lx_valr (k := 2) S NN (by omega) (by omega) (by omega)
  obtain ⟨r1, M1, e1, q1, f1⟩ := m_222 (d := d) hK C E S B m0 m2 t0 t2
  have hK1 := ax_Kp e1 hK rfl
  have C1 := JF_NH C f1
  have E1 := NF_ME E (JF_NF f1)
  obtain ⟨r2, M2, e2, q2, f2⟩ := m_223 (d := d) hK1 C1 E1 S B m0 m2 t0 t2
  have hK2 := ax_Kp e2 hK1 rfl
  have C2 := JF_NH C1 f2
  have g1 : am_rd M2 475 m = H (144 + m) := C2.2.2.2.1 m m0 m2
  have g2 : am_rd M2 472 (8 * m + t) = H (8 * m + t) := C2.1 _ (by omega) (by omega)
  have fin : ∀ (M3 : am_M) (H3 : Int → Int), ax_K M3 → NH M3 H3 → NF M2 M3 → H3 (48 + (8 * m + t)) = H (48 + (8 * m + t)) → ∃ M', am_Ex d 252 41 [(2, 447), (0, m), (0, t), am_N, (0, r2)] [] M3 = am_Ex d 252 3 [(2, 447), (0, m), (0, t + 1), am_N, am_N] [] M' ∧ ax_K M' ∧ NH M' (hW H3 m t (H (48 + (8 * m + t)) - lx_val 2 (cd 2) (lx_nm P W H m t 0))) ∧ NF M M' := by
    intro M3 H3 hK3 C3 F3 e48
    have g3 : am_rd M3 473 (8 * m + t) = H (48 + (8 * m + t)) := (C3.2.1 _ (by omega) (by omega)).trans e48
    have e87 : ∀ d, am_Call d 87 [(1, H (48 + (8 * m + t)) - r2), (0, 0), (0, 99)] M3 = some (hcl 0 99 (H (48 + (8 * m + t)) - r2), M3) := fun d => m_87 (by omega) (by omega)
    refine ⟨am_wr M3 473 (8 * m + t) (hcl 0 99 (H (48 + (8 * m + t)) - r2)), ?_, ax_Kw hK3 rfl, ?_, ?_⟩
    · rw [aq_252_41]
      simp (disch := first | assumption | omega) only [ax_gt, ax_gi, Option.bind_some, ax_gbl, ax_gb2, ax_gd, Int.reduceEq, Int.reduceNe, Int.reduceLT, Int.reduceLE, Int.reduceAdd, Int.reduceSub, Int.reduceMul, Int.reduceNeg, reduceIte, ite_true, ite_false, true_and, and_true, false_and, and_false, true_or, or_true, false_or, or_false, not_true_eq_false, not_false_eq_true, and_self, or_self, eq_self, ite_self, decide_true, decide_false, Bool.true_and, Bool.and_true, Bool.and_self, Bool.false_and, Int.add_zero, Int.zero_add, ax_rw, if_pos, if_neg, ax_w32, ax_let, ax_o_447, ax_a_473, kr_447_42, g3, e87]
    · rw [← q2]
      exact NH_W C3 m0 m2 t0 t2
    · intro c i h1 h2 h3 h4
      rw [ax_wc (by omega)]
      exact (NF_trans (JF_NF f1) (NF_trans (JF_NF f2) F3)) c i h1 h2 h3 h4
  rw [aq_252_3]
  unfold hF
  by_cases hs : am_and (am_shr (H (144 + m)) t) 1 = 1
  · rw [if_pos hs]
    simp (disch := first | assumption | omega) only [ax_gt, ax_gi, Option.bind_some, ax_gbl, ax_gb2, ax_gd, Int.reduceEq, Int.reduceNe, Int.reduceLT, Int.reduceLE, Int.reduceAdd, Int.reduceSub, Int.reduceMul, Int.reduceNeg, reduceIte, ite_true, ite_false, true_and, and_true, false_and, and_false, true_or, or_true, false_or, or_false, not_true_eq_false, not_false_eq_true, and_self, or_self, eq_self, ite_self, decide_true, decide_false, Bool.true_and, Bool.and_true, Bool.and_self, Bool.false_and, Int.add_zero, Int.zero_add, ax_rw, if_pos, if_neg, ax_o_447, ax_a_448, kr_447_0, ax_a_475, kr_447_44, E.1.1, e1, e2, g1, m_65, ax_b0, hs]
    exact fin M2 H hK2 C2 NF_refl rfl
  · rw [if_neg hs]
    obtain ⟨r4, M4, e4, C4, F4, -⟩ := m_157 (d := d) (v := H (8 * m + t) - r1) hK2 C2 m0 m2 t0 t2 (by omega) (by omega)
    simp (disch := first | assumption | omega) only [ax_gt, ax_gi, Option.bind_some, ax_gbl, ax_gb2, ax_gd, Int.reduceEq, Int.reduceNe, Int.reduceLT, Int.reduceLE, Int.reduceAdd, Int.reduceSub, Int.reduceMul, Int.reduceNeg, reduceIte, ite_true, ite_false, true_and, and_true, false_and, and_false, true_or, or_true, false_or, or_false, not_true_eq_false, not_false_eq_true, and_self, or_self, eq_self, ite_self, decide_true, decide_false, Bool.true_and, Bool.and_true, Bool.and_self, Bool.false_and, Int.add_zero, Int.zero_add, ax_rw, if_pos, if_neg, ax_w32, ax_o_447, ax_a_448, kr_447_0, ax_a_472, kr_447_41, ax_a_475, kr_447_44, E.1.1, e1, e2, g1, g2, m_65, ax_b0, hs, e4]
    rw [← q1]
    exact fin M4 _ (ax_Kp e4 hK2 rfl) C4 F4 (by simp (disch := omega) only [hR, hu, if_neg])
theorem m_252 (hK : ax_K M) (C : NH M H) (E : ME M T n al P W cd) (S : ES T n al P W cd) (B : HB T H) (m0 : 0 ≤ m) (m2 : m < 6) : ax_ok (am_Call d 252 [(2, 447), (0, m)] M) (fun _ M' => NH M' (ax_fo (fun t H => hF P W cd m t H) (T - 0).toNat 0 H) ∧ NF M M') := by
  have hT := S.1
  rw [aq_252]
  refine ax_loopM (σ := Int → Int) (X := fun t _ m' => am_Ex d 252 3 [(2, 447), (0, m), (0, t), am_N, am_N] [] m') (n := T) (fun t H' m' => 0 ≤ t ∧ ax_K m' ∧ NH m' H' ∧ NF M m' ∧ HB T H' ∧ ax_fo (fun t H => hF P W cd m t H) (T - t).toNat t H' = ax_fo (fun t H => hF P W cd m t H) (T - 0).toNat 0 H) ?_ ?_ (T - 0).toNat 0 H M (by omega) ⟨by omega, hK, C, NF_refl, B, rfl⟩
  · intro t H' m' ⟨t0, hK', C', F', B', hs⟩ t1
    obtain ⟨M1, e1, k1, C1, F1⟩ := m_252s (d := d) hK' C' (NF_ME E F') S B' m0 m2 t0 t1
    exact ⟨_, M1, e1, by omega, k1, C1, NF_trans F' F1, HB_F S B' m0 m2 t0 t1, by rw [← hs, ax_fo_s t1]⟩
  · intro H' m' ⟨t0, hK', C', F', B', hs⟩
    rw [ax_fo_e (by omega)] at hs
    have E' := NF_ME E F'
    show ax_ok (am_Ex d 252 3 _ _ _) _
    rw [aq_252_3]
    simp (disch := first | assumption | omega) only [ax_gt, ax_gi, Option.bind_some, ax_gbl, ax_gb2, ax_gd, Int.reduceEq, Int.reduceNe, Int.reduceLT, Int.reduceLE, Int.reduceAdd, Int.reduceSub, Int.reduceMul, Int.reduceNeg, reduceIte, ite_true, ite_false, true_and, and_true, false_and, and_false, true_or, or_true, false_or, or_false, not_true_eq_false, not_false_eq_true, and_self, or_self, eq_self, ite_self, decide_true, decide_false, Bool.true_and, Bool.and_true, Bool.and_self, Bool.false_and, Int.add_zero, Int.zero_add, ax_rw, if_pos, if_neg, ax_o_447, ax_a_448, kr_447_0, E'.1.1, Int.lt_irrefl]
    exact ax_ok_some ⟨hs ▸ C', F'⟩
theorem m_254 (hK : ax_K M) (C : NH M H) (E : ME M T n al P W cd) (S : ES T n al P W cd) (B : HB T H) (m0 : 0 ≤ m) (m2 : m < 6) (t0 : 0 ≤ t) (t1 : t < T) (k0 : 1 ≤ k) (k1 : k ≤ 99) : ax_ok (am_Call d 254 [(2, 447), (0, m), (0, t), (0, k)] M) (fun _ M' => NH M' (hM P W cd m t k H) ∧ NF M M') := by
  have hT := S.1
  have t2 : t < 8 := by omega
  have bb := B.1 (8 * m + t) (by omega) (by omega)
  have g0 : am_rd M 473 (8 * m + t) = H (48 + (8 * m + t)) := C.2.1 _ (by omega) (by omega)
  have e87 : ∀ d, am_Call d 87 [(1, H (48 + (8 * m + t)) + k), (0, 0), (0, 99)] M = some (hcl 0 99 (H (48 + (8 * m + t)) + k), M) := fun d => m_87 (by omega) (by omega)
  have C1 := NH_W (v := H (48 + (8 * m + t)) + k) C m0 m2 t0 t2
  have B1 := HB_W (v := H (48 + (8 * m + t)) + k) B m0 m2 t0 t2
  have w1 : hW H m t (H (48 + (8 * m + t)) + k) (144 + m) = H (144 + m) := by simp (disch := omega) only [hW, hu, if_neg]
  have w2 : hW H m t (H (48 + (8 * m + t)) + k) (8 * m + t) = H (8 * m + t) := by simp (disch := omega) only [hW, hu, if_neg]
  have hK1 : ax_K (am_wr M 473 (8 * m + t) (hcl 0 99 (H (48 + (8 * m + t)) + k))) := ax_Kw hK rfl
  have F1 : NF M (am_wr M 473 (8 * m + t) (hcl 0 99 (H (48 + (8 * m + t)) + k))) := fun c i _ _ h3 _ => ax_wc (by omega)
  have E1 := NF_ME E F1
  have g1 := C1.2.2.2.1 m m0 m2
  have g2 := C1.1 (8 * m + t) (by omega) (by omega)
  rw [w1] at g1
  rw [w2] at g2
  have key : am_Call d 254 [(2, 447), (0, m), (0, t), (0, k)] M = am_Call d 254 [(2, 447), (0, m), (0, t), (0, k)] M := rfl
  rw [aq_254]
  simp (disch := first | assumption | omega) only [ax_gt, ax_gi, Option.bind_some, ax_gbl, ax_gb2, ax_gd, Int.reduceEq, Int.reduceNe, Int.reduceLT, Int.reduceLE, Int.reduceAdd, Int.reduceSub, Int.reduceMul, Int.reduceNeg, reduceIte, ite_true, ite_false, true_and, and_true, false_and, and_false, true_or, or_true, false_or, or_false, not_true_eq_false, not_false_eq_true, and_self, or_self, eq_self, ite_self, decide_true, decide_false, Bool.true_and, Bool.and_true, Bool.and_self, Bool.false_and, Int.add_zero, Int.zero_add, ax_rw, if_pos, if_neg, ax_w32, ax_o_447, ax_a_473, kr_447_42, g0, e87]
  rw [ax_let]
  generalize hM1 : am_wr M 473 (8 * m + t) (hcl 0 99 (H (48 + (8 * m + t)) + k)) = M1 at *
  generalize hH1 : hW H m t (H (48 + (8 * m + t)) + k) = H1 at *
  unfold hM
  rw [hH1]
  by_cases hs : am_and (am_shr (H (144 + m)) t) 1 = 1
  · rw [if_pos hs]
    simp (disch := first | assumption | omega) only [ax_gt, ax_gi, Option.bind_some, ax_gbl, ax_gb2, ax_gd, Int.reduceEq, Int.reduceNe, Int.reduceLT, Int.reduceLE, Int.reduceAdd, Int.reduceSub, Int.reduceMul, Int.reduceNeg, reduceIte, ite_true, ite_false, true_and, and_true, false_and, and_false, true_or, or_true, false_or, or_false, not_true_eq_false, not_false_eq_true, and_self, or_self, eq_self, ite_self, decide_true, decide_false, Bool.true_and, Bool.and_true, Bool.and_self, Bool.false_and, Int.add_zero, Int.zero_add, ax_rw, if_pos, if_neg, ax_o_447, ax_a_475, kr_447_44, g1, m_65, ax_b0, hs]
    exact ax_ok_some ⟨C1, F1⟩
  · rw [if_neg hs]
    have NN := lx_nmN (k := k) S B1 m0 m2 t0 t2 (by omega) (by omega)
    have h8 : lx_nm P W H1 m t k 8 = k := by unfold lx_nm; simp only [Int.reduceEq, Int.reduceNe, Int.reduceLT, Int.reduceLE, Int.reduceAdd, Int.reduceSub, Int.reduceMul, Int.reduceNeg, reduceIte, ite_true, ite_false, true_and, and_true, false_and, and_false, true_or, or_true, false_or, or_false, not_true_eq_false, not_false_eq_true, and_self, or_self, eq_self, ite_self, decide_true, decide_false, Bool.true_and, Bool.and_true, Bool.and_self, Bool.false_and, Int.add_zero, Int.zero_add]
    have v3 := lx_valr (k := 3) S NN (by omega) (by omega) (by omega)
    obtain ⟨r3, M3, e3, q3, f3⟩ := m_224 (d := d) (k := k) hK1 C1 E1 S B1 m0 m2 t0 t2 k0 k1
    have hK3 := ax_Kp e3 hK1 rfl
    obtain ⟨r5, M5, e5, C5, F5, -⟩ := m_157 (d := d) (v := H (8 * m + t) - r3) hK3 (JF_NH C1 f3) m0 m2 t0 t2 (by omega) (by omega)
    simp (disch := first | assumption | omega) only [ax_gt, ax_gi, Option.bind_some, ax_gbl, ax_gb2, ax_gd, Int.reduceEq, Int.reduceNe, Int.reduceLT, Int.reduceLE, Int.reduceAdd, Int.reduceSub, Int.reduceMul, Int.reduceNeg, reduceIte, ite_true, ite_false, true_and, and_true, false_and, and_false, true_or, or_true, false_or, or_false, not_true_eq_false, not_false_eq_true, and_self, or_self, eq_self, ite_self, decide_true, decide_false, Bool.true_and, Bool.and_true, Bool.and_self, Bool.false_and, Int.add_zero, Int.zero_add, ax_rw, if_pos, if_neg, ax_w32, ax_o_447, ax_a_472, kr_447_41, ax_a_475, kr_447_44, g1, g2, m_65, ax_b0, hs, e3, e5]
    rw [← q3]
    exact ax_ok_some ⟨C5, NF_trans F1 (NF_trans (JF_NF f3) F5)⟩
theorem NH_free {v : Int} (C : NH M H) (m0 : 0 ≤ m) (m1 : m < 6) : NH (am_wr M 477 m v) (hu H (156 + m) v) := by
  obtain ⟨f1, f2, f3, f4, f5, f6, f7⟩ := C
  refine ⟨?_, ?_, ?_, ?_, ?_, ?_, ?_⟩
  · intro j j0 j1
    simp (disch := first | assumption | omega) only [Int.reduceEq, Int.reduceNe, Int.reduceLT, Int.reduceLE, Int.reduceAdd, Int.reduceSub, Int.reduceMul, Int.reduceNeg, reduceIte, ite_true, ite_false, true_and, and_true, false_and, and_false, true_or, or_true, false_or, or_false, not_true_eq_false, not_false_eq_true, and_self, or_self, eq_self, ite_self, decide_true, decide_false, Bool.true_and, Bool.and_true, Bool.and_self, Bool.false_and, Int.add_zero, Int.zero_add, ax_rw, if_pos, if_neg, hu, f1]
  · intro j j0 j1
    simp (disch := first | assumption | omega) only [Int.reduceEq, Int.reduceNe, Int.reduceLT, Int.reduceLE, Int.reduceAdd, Int.reduceSub, Int.reduceMul, Int.reduceNeg, reduceIte, ite_true, ite_false, true_and, and_true, false_and, and_false, true_or, or_true, false_or, or_false, not_true_eq_false, not_false_eq_true, and_self, or_self, eq_self, ite_self, decide_true, decide_false, Bool.true_and, Bool.and_true, Bool.and_self, Bool.false_and, Int.add_zero, Int.zero_add, ax_rw, if_pos, if_neg, hu, f2]
  · intro j j0 j1
    simp (disch := first | assumption | omega) only [Int.reduceEq, Int.reduceNe, Int.reduceLT, Int.reduceLE, Int.reduceAdd, Int.reduceSub, Int.reduceMul, Int.reduceNeg, reduceIte, ite_true, ite_false, true_and, and_true, false_and, and_false, true_or, or_true, false_or, or_false, not_true_eq_false, not_false_eq_true, and_self, or_self, eq_self, ite_self, decide_true, decide_false, Bool.true_and, Bool.and_true, Bool.and_self, Bool.false_and, Int.add_zero, Int.zero_add, ax_rw, if_pos, if_neg, hu, f3]
  · intro j j0 j1
    simp (disch := first | assumption | omega) only [Int.reduceEq, Int.reduceNe, Int.reduceLT, Int.reduceLE, Int.reduceAdd, Int.reduceSub, Int.reduceMul, Int.reduceNeg, reduceIte, ite_true, ite_false, true_and, and_true, false_and, and_false, true_or, or_true, false_or, or_false, not_true_eq_false, not_false_eq_true, and_self, or_self, eq_self, ite_self, decide_true, decide_false, Bool.true_and, Bool.and_true, Bool.and_self, Bool.false_and, Int.add_zero, Int.zero_add, ax_rw, if_pos, if_neg, hu, f4]
  · intro j j0 j1
    simp (disch := first | assumption | omega) only [Int.reduceEq, Int.reduceNe, Int.reduceLT, Int.reduceLE, Int.reduceAdd, Int.reduceSub, Int.reduceMul, Int.reduceNeg, reduceIte, ite_true, ite_false, true_and, and_true, false_and, and_false, true_or, or_true, false_or, or_false, not_true_eq_false, not_false_eq_true, and_self, or_self, eq_self, ite_self, decide_true, decide_false, Bool.true_and, Bool.and_true, Bool.and_self, Bool.false_and, Int.add_zero, Int.zero_add, ax_rw, if_pos, if_neg, hu, f5]
  · intro j j0 j1
    by_cases hj : j = m <;> simp (disch := first | assumption | omega) only [Int.reduceEq, Int.reduceNe, Int.reduceLT, Int.reduceLE, Int.reduceAdd, Int.reduceSub, Int.reduceMul, Int.reduceNeg, reduceIte, ite_true, ite_false, true_and, and_true, false_and, and_false, true_or, or_true, false_or, or_false, not_true_eq_false, not_false_eq_true, and_self, or_self, eq_self, ite_self, decide_true, decide_false, Bool.true_and, Bool.and_true, Bool.and_self, Bool.false_and, Int.add_zero, Int.zero_add, ax_rw, if_pos, if_neg, hu, f6]
  · simp (disch := first | assumption | omega) only [Int.reduceEq, Int.reduceNe, Int.reduceLT, Int.reduceLE, Int.reduceAdd, Int.reduceSub, Int.reduceMul, Int.reduceNeg, reduceIte, ite_true, ite_false, true_and, and_true, false_and, and_false, true_or, or_true, false_or, or_false, not_true_eq_false, not_false_eq_true, and_self, or_self, eq_self, ite_self, decide_true, decide_false, Bool.true_and, Bool.and_true, Bool.and_self, Bool.false_and, Int.add_zero, Int.zero_add, ax_rw, if_pos, if_neg, hu, f7]
theorem NH_day {v : Int} (C : NH M H) : NH (am_wr M 447 47 v) (hu H 162 v) := by
  obtain ⟨f1, f2, f3, f4, f5, f6, f7⟩ := C
  refine ⟨?_, ?_, ?_, ?_, ?_, ?_, ?_⟩
  · intro j j0 j1
    simp (disch := first | assumption | omega) only [Int.reduceEq, Int.reduceNe, Int.reduceLT, Int.reduceLE, Int.reduceAdd, Int.reduceSub, Int.reduceMul, Int.reduceNeg, reduceIte, ite_true, ite_false, true_and, and_true, false_and, and_false, true_or, or_true, false_or, or_false, not_true_eq_false, not_false_eq_true, and_self, or_self, eq_self, ite_self, decide_true, decide_false, Bool.true_and, Bool.and_true, Bool.and_self, Bool.false_and, Int.add_zero, Int.zero_add, ax_rw, if_pos, if_neg, hu, f1]
  · intro j j0 j1
    simp (disch := first | assumption | omega) only [Int.reduceEq, Int.reduceNe, Int.reduceLT, Int.reduceLE, Int.reduceAdd, Int.reduceSub, Int.reduceMul, Int.reduceNeg, reduceIte, ite_true, ite_false, true_and, and_true, false_and, and_false, true_or, or_true, false_or, or_false, not_true_eq_false, not_false_eq_true, and_self, or_self, eq_self, ite_self, decide_true, decide_false, Bool.true_and, Bool.and_true, Bool.and_self, Bool.false_and, Int.add_zero, Int.zero_add, ax_rw, if_pos, if_neg, hu, f2]
  · intro j j0 j1
    simp (disch := first | assumption | omega) only [Int.reduceEq, Int.reduceNe, Int.reduceLT, Int.reduceLE, Int.reduceAdd, Int.reduceSub, Int.reduceMul, Int.reduceNeg, reduceIte, ite_true, ite_false, true_and, and_true, false_and, and_false, true_or, or_true, false_or, or_false, not_true_eq_false, not_false_eq_true, and_self, or_self, eq_self, ite_self, decide_true, decide_false, Bool.true_and, Bool.and_true, Bool.and_self, Bool.false_and, Int.add_zero, Int.zero_add, ax_rw, if_pos, if_neg, hu, f3]
  · intro j j0 j1
    simp (disch := first | assumption | omega) only [Int.reduceEq, Int.reduceNe, Int.reduceLT, Int.reduceLE, Int.reduceAdd, Int.reduceSub, Int.reduceMul, Int.reduceNeg, reduceIte, ite_true, ite_false, true_and, and_true, false_and, and_false, true_or, or_true, false_or, or_false, not_true_eq_false, not_false_eq_true, and_self, or_self, eq_self, ite_self, decide_true, decide_false, Bool.true_and, Bool.and_true, Bool.and_self, Bool.false_and, Int.add_zero, Int.zero_add, ax_rw, if_pos, if_neg, hu, f4]
  · intro j j0 j1
    simp (disch := first | assumption | omega) only [Int.reduceEq, Int.reduceNe, Int.reduceLT, Int.reduceLE, Int.reduceAdd, Int.reduceSub, Int.reduceMul, Int.reduceNeg, reduceIte, ite_true, ite_false, true_and, and_true, false_and, and_false, true_or, or_true, false_or, or_false, not_true_eq_false, not_false_eq_true, and_self, or_self, eq_self, ite_self, decide_true, decide_false, Bool.true_and, Bool.and_true, Bool.and_self, Bool.false_and, Int.add_zero, Int.zero_add, ax_rw, if_pos, if_neg, hu, f5]
  · intro j j0 j1
    simp (disch := first | assumption | omega) only [Int.reduceEq, Int.reduceNe, Int.reduceLT, Int.reduceLE, Int.reduceAdd, Int.reduceSub, Int.reduceMul, Int.reduceNeg, reduceIte, ite_true, ite_false, true_and, and_true, false_and, and_false, true_or, or_true, false_or, or_false, not_true_eq_false, not_false_eq_true, and_self, or_self, eq_self, ite_self, decide_true, decide_false, Bool.true_and, Bool.and_true, Bool.and_self, Bool.false_and, Int.add_zero, Int.zero_add, ax_rw, if_pos, if_neg, hu, f6]
  · simp (disch := first | assumption | omega) only [Int.reduceEq, Int.reduceNe, Int.reduceLT, Int.reduceLE, Int.reduceAdd, Int.reduceSub, Int.reduceMul, Int.reduceNeg, reduceIte, ite_true, ite_false, true_and, and_true, false_and, and_false, true_or, or_true, false_or, or_false, not_true_eq_false, not_false_eq_true, and_self, or_self, eq_self, ite_self, decide_true, decide_false, Bool.true_and, Bool.and_true, Bool.and_self, Bool.false_and, Int.add_zero, Int.zero_add, ax_rw, if_pos, if_neg, hu]
theorem m_265 (hK : ax_K M) (C : NH M H) (E : ME M T n al P W cd) (S : ES T n al P W cd) (B : HB T H) (m0 : 0 ≤ m) (m2 : m < 6) (hf : H (156 + m) = 0) : ax_ok (am_Call d 265 [(2, 447), (0, m)] M) (fun r M' => r = ax_cn (hHad T P W cd H m) ∧ NH M' (hT T al P W cd m H) ∧ NF M M') := by
  have hTb := S.1
  obtain ⟨r1, M1, e1, rfl, f1⟩ := m_251 (d := d) hK C E S B m0 m2
  have hr := hHad_r (T := T) (P := P) (W := W) (cd := cd) (H := H) (m := m) hTb.2
  have hK1 := ax_Kp e1 hK rfl
  have C1 := JF_NH C f1
  have e2 := m_66 (M := M1) (d := d) hr.1 hr.2
  have hal : am_rd M1 448 7 = al := (f1 _ _ (by omega) (by omega)).trans E.1.2.2
  rw [aq_265]
  unfold hT
  simp (disch := first | assumption | omega) only [ax_gt, ax_gi, Option.bind_some, ax_gbl, ax_gb2, ax_gd, Int.reduceEq, Int.reduceNe, Int.reduceLT, Int.reduceLE, Int.reduceAdd, Int.reduceSub, Int.reduceMul, Int.reduceNeg, reduceIte, ite_true, ite_false, true_and, and_true, false_and, and_false, true_or, or_true, false_or, or_false, not_true_eq_false, not_false_eq_true, and_self, or_self, eq_self, ite_self, decide_true, decide_false, Bool.true_and, Bool.and_true, Bool.and_self, Bool.false_and, Int.add_zero, Int.zero_add, ax_rw, if_pos, if_neg, ax_o_447, ax_a_448, kr_447_0, e1, e2, hal]
  by_cases hc : ax_cn (hHad T P W cd H m) ≤ al
  · rw [if_pos hc, if_pos hc]
    simp (disch := first | assumption | omega) only [ax_gt, ax_gi, Option.bind_some, ax_gbl, ax_gb2, ax_gd, Int.reduceEq, Int.reduceNe, Int.reduceLT, Int.reduceLE, Int.reduceAdd, Int.reduceSub, Int.reduceMul, Int.reduceNeg, reduceIte, ite_true, ite_false, true_and, and_true, false_and, and_false, true_or, or_true, false_or, or_false, not_true_eq_false, not_false_eq_true, and_self, or_self, eq_self, ite_self, decide_true, decide_false, Bool.true_and, Bool.and_true, Bool.and_self, Bool.false_and, Int.add_zero, Int.zero_add, ax_rw, if_pos, if_neg, ax_let, ax_o_447, ax_a_477, kr_447_46]
    exact ax_ok_some ⟨rfl, NH_free C1 m0 m2, fun c i h1 h2 h3 h4 => by rw [ax_wc (by omega)]; exact f1 c i h1 h2⟩
  · rw [if_neg hc, if_neg hc]
    simp (disch := first | assumption | omega) only [ax_gt, ax_gi, Option.bind_some, ax_gbl, ax_gb2, ax_gd, Int.reduceEq, Int.reduceNe, Int.reduceLT, Int.reduceLE, Int.reduceAdd, Int.reduceSub, Int.reduceMul, Int.reduceNeg, reduceIte, ite_true, ite_false, true_and, and_true, false_and, and_false, true_or, or_true, false_or, or_false, not_true_eq_false, not_false_eq_true, and_self, or_self, eq_self, ite_self, decide_true, decide_false, Bool.true_and, Bool.and_true, Bool.and_self, Bool.false_and, Int.add_zero, Int.zero_add, ax_rw, if_pos, if_neg, ax_let, ax_o_447, ax_a_477, kr_447_46]
    have C2 := NH_free (v := 0) C1 m0 m2
    have e0 : hu H (156 + m) 0 = H := by
      funext j
      unfold hu
      split
      · rename_i h; rw [h, hf]
      · rfl
    rw [e0] at C2
    exact ax_ok_some ⟨rfl, C2, fun c i h1 h2 h3 h4 => by rw [ax_wc (by omega)]; exact f1 c i h1 h2⟩
theorem m_282 (hK : ax_K M) (C : NH M H) (E : ME M T n al P W cd) (S : ES T n al P W cd) (B : HB T H) (hd : H 162 < 1300) : ax_ok (am_Call d 282 [(2, 447), (0, 1)] M) (fun _ M' => NH M' (hNi T al P W cd 0 n H) ∧ NF M M') := by
  have hTb := S.1
  have hn := S.2.1
  have B1 := HB_N1 S B (Int.le_refl 0) (by omega : n ≤ 6)
  have hd1 := hN1_o (H := H) S (Int.le_refl 0) (by omega : n ≤ 6) (j := 162) (by omega)
  rw [aq_282]
  unfold hNi
  dsimp only
  generalize hH1 : ax_fo (fun m H => hNm T P W cd m H) (n - 0).toNat 0 H = H1 at *
  refine ax_loopQ (σ := Int → Int) (X := fun m _ m' => am_Ex d 282 3 [(2, 447), (0, 1), (0, m), am_N] [] m') (n := n) (fun m H' m' => 0 ≤ m ∧ ax_K m' ∧ NH m' H' ∧ NF M m' ∧ HB T H' ∧ ax_fo (fun m H => hNm T P W cd m H) (n - m).toNat m H' = H1) ?_ ?_ (n - 0).toNat 0 H M (by omega) ⟨by omega, hK, C, NF_refl, B, hH1⟩
  · intro m H' m' ⟨m0, hK', C', F', B', hs⟩ m1 hnext
    have E' := NF_ME E F'
    have g1 : am_rd m' 477 m = H' (156 + m) := C'.2.2.2.2.2.1 m m0 (by omega)
    show ax_ok (am_Ex d 282 3 _ _ _) _
    rw [aq_282_3]
    by_cases hf : H' (156 + m) = 0
    · obtain ⟨r2, M2, e2, C2, F2⟩ := m_252 (d := d) hK' C' E' S B' m0 (by omega)
      have hT1 : hNm T P W cd m H' = ax_fo (fun t H => hF P W cd m t H) (T - 0).toNat 0 H' := if_pos hf
      simp (disch := first | assumption | omega) only [ax_gt, ax_gi, Option.bind_some, ax_gbl, ax_gb2, ax_gd, Int.reduceEq, Int.reduceNe, Int.reduceLT, Int.reduceLE, Int.reduceAdd, Int.reduceSub, Int.reduceMul, Int.reduceNeg, reduceIte, ite_true, ite_false, true_and, and_true, false_and, and_false, true_or, or_true, false_or, or_false, not_true_eq_false, not_false_eq_true, and_self, or_self, eq_self, ite_self, decide_true, decide_false, Bool.true_and, Bool.and_true, Bool.and_self, Bool.false_and, Int.add_zero, Int.zero_add, ax_rw, if_pos, if_neg, ax_o_447, ax_a_448, kr_447_0, ax_a_477, kr_447_46, E'.1.2.1, g1, hf, e2]
      rw [aq_282_18, ax_let, ax_w32 (by omega) (by omega)]
      exact hnext _ M2 ⟨by omega, ax_Kp e2 hK' rfl, C2, NF_trans F' F2, hT1 ▸ HB_Nm S B' m0 (by omega), by rw [← hs, ax_fo_s m1, hT1]⟩
    · have hT1 : hNm T P W cd m H' = H' := if_neg hf
      simp (disch := first | assumption | omega) only [ax_gt, ax_gi, Option.bind_some, ax_gbl, ax_gb2, ax_gd, Int.reduceEq, Int.reduceNe, Int.reduceLT, Int.reduceLE, Int.reduceAdd, Int.reduceSub, Int.reduceMul, Int.reduceNeg, reduceIte, ite_true, ite_false, true_and, and_true, false_and, and_false, true_or, or_true, false_or, or_false, not_true_eq_false, not_false_eq_true, and_self, or_self, eq_self, ite_self, decide_true, decide_false, Bool.true_and, Bool.and_true, Bool.and_self, Bool.false_and, Int.add_zero, Int.zero_add, ax_rw, if_pos, if_neg, ax_o_447, ax_a_448, kr_447_0, ax_a_477, kr_447_46, E'.1.2.1, g1, hf]
      rw [aq_282_18, ax_let, ax_w32 (by omega) (by omega)]
      exact hnext _ m' ⟨by omega, hK', C', F', B', by rw [← hs, ax_fo_s m1, hT1]⟩
  · intro H' m' ⟨m0, hK', C', F', B', hs⟩
    rw [ax_fo_e (by omega)] at hs
    subst hs
    have E' := NF_ME E F'
    have hday := C'.2.2.2.2.2.2
    have b3 := B'.2.2.1
    have w1 : am_w32 (H' 162 + 1) = H' 162 + 1 := ax_w32 (by omega) (by omega)
    have w2 : am_rem (H' 162 + 1) 30 = (H' 162 + 1) % 30 := ax_rem (by omega) (by omega) (by omega) (by omega)
    have C2 := NH_day (v := H' 162 + 1) C'
    have k2 : ax_K (am_wr m' 447 47 (H' 162 + 1)) := ax_Kw hK' rfl
    have F2 : NF m' (am_wr m' 447 47 (H' 162 + 1)) := fun c i _ _ _ h4 => if_neg h4
    have g47 : am_rd (am_wr m' 447 47 (H' 162 + 1)) 447 47 = H' 162 + 1 := ax_ws
    show ax_ok (am_Ex d 282 3 _ _ _) _
    rw [aq_282_3]
    simp (disch := first | assumption | omega) only [ax_gt, ax_gi, Option.bind_some, ax_gbl, ax_gb2, ax_gd, Int.reduceEq, Int.reduceNe, Int.reduceLT, Int.reduceLE, Int.reduceAdd, Int.reduceSub, Int.reduceMul, Int.reduceNeg, reduceIte, ite_true, ite_false, true_and, and_true, false_and, and_false, true_or, or_true, false_or, or_false, not_true_eq_false, not_false_eq_true, and_self, or_self, eq_self, ite_self, decide_true, decide_false, Bool.true_and, Bool.and_true, Bool.and_self, Bool.false_and, Int.add_zero, Int.zero_add, ax_rw, if_pos, if_neg, ax_o_447, ax_a_448, kr_447_0, E'.1.2.1, hday, Int.lt_irrefl, w1]
    rw [ax_let]
    simp only [hu_at]
    generalize am_wr m' 447 47 (H' 162 + 1) = M2 at *
    by_cases h30 : (H' 162 + 1) % 30 = 0
    · rw [if_pos h30]
      refine ax_loopQ (σ := Int → Int) (X := fun m _ m' => am_Ex d 282 29 [(2, 447), (0, 1), (0, m), am_N] [] m') (n := n) (fun m H2 m2 => 0 ≤ m ∧ ax_K m2 ∧ NH m2 H2 ∧ NF M m2 ∧ HB T H2 ∧ H2 162 = H' 162 + 1 ∧ ax_fo (fun m H => hTf T al P W cd m H) (n - m).toNat m H2 = ax_fo (fun m H => hTf T al P W cd m H) (n - 0).toNat 0 (hu H' 162 (H' 162 + 1))) ?_ ?_ (n - 0).toNat 0 (hu H' 162 (H' 162 + 1)) _ (by omega) ⟨by omega, k2, C2, NF_trans F' F2, HB_day B' (by omega) (by omega), hu_at, rfl⟩
      · intro m H2 m2 ⟨m0, hK3, C3, F3, B3, h162, hs⟩ m1 hnext
        have E3 := NF_ME E F3
        have g1 : am_rd m2 477 m = H2 (156 + m) := C3.2.2.2.2.2.1 m m0 (by omega)
        have g7 : am_rd m2 447 47 = H' 162 + 1 := C3.2.2.2.2.2.2.trans h162
        show ax_ok (am_Ex d 282 29 _ _ _) _
        rw [aq_282_29]
        by_cases hf : H2 (156 + m) = 0
        · obtain ⟨r1, M1, e1, -, C1, F1⟩ := m_265 (d := d) hK3 C3 E3 S B3 (m := m) (by omega) (by omega) hf
          have hT1 : hTf T al P W cd m H2 = hT T al P W cd m H2 := if_pos hf
          simp (disch := first | assumption | omega) only [ax_gt, ax_gi, Option.bind_some, ax_gbl, ax_gb2, ax_gd, Int.reduceEq, Int.reduceNe, Int.reduceLT, Int.reduceLE, Int.reduceAdd, Int.reduceSub, Int.reduceMul, Int.reduceNeg, reduceIte, ite_true, ite_false, true_and, and_true, false_and, and_false, true_or, or_true, false_or, or_false, not_true_eq_false, not_false_eq_true, and_self, or_self, eq_self, ite_self, decide_true, decide_false, Bool.true_and, Bool.and_true, Bool.and_self, Bool.false_and, Int.add_zero, Int.zero_add, ax_rw, if_pos, if_neg, ax_o_447, ax_a_448, kr_447_0, ax_a_477, kr_447_46, E3.1.2.1, g7, w2, h30, g1, hf, e1]
          rw [aq_282_52, ax_let, ax_w32 (by omega) (by omega)]
          refine hnext _ M1 ⟨by omega, ax_Kp e1 hK3 rfl, C1, NF_trans F3 F1, HB_T B3 (by omega) (by omega), ?_, by rw [← hs, ax_fo_s m1, hT1]⟩
          unfold hT
          split
          · rw [hu_ne (by omega)]; exact h162
          · exact h162
        · have hT1 : hTf T al P W cd m H2 = H2 := if_neg hf
          simp (disch := first | assumption | omega) only [ax_gt, ax_gi, Option.bind_some, ax_gbl, ax_gb2, ax_gd, Int.reduceEq, Int.reduceNe, Int.reduceLT, Int.reduceLE, Int.reduceAdd, Int.reduceSub, Int.reduceMul, Int.reduceNeg, reduceIte, ite_true, ite_false, true_and, and_true, false_and, and_false, true_or, or_true, false_or, or_false, not_true_eq_false, not_false_eq_true, and_self, or_self, eq_self, ite_self, decide_true, decide_false, Bool.true_and, Bool.and_true, Bool.and_self, Bool.false_and, Int.add_zero, Int.zero_add, ax_rw, if_pos, if_neg, ax_o_447, ax_a_448, kr_447_0, ax_a_477, kr_447_46, E3.1.2.1, g7, w2, h30, g1, hf]
          rw [aq_282_52, ax_let, ax_w32 (by omega) (by omega)]
          exact hnext _ m2 ⟨by omega, hK3, C3, F3, B3, h162, by rw [← hs, ax_fo_s m1, hT1]⟩
      · intro H2 m2 ⟨m0, hK3, C3, F3, B3, h162, hs⟩
        rw [ax_fo_e (by omega)] at hs
        subst hs
        have E3 := NF_ME E F3
        show ax_ok (am_Ex d 282 29 _ _ _) _
        rw [aq_282_29]
        simp (disch := first | assumption | omega) only [ax_gt, ax_gi, Option.bind_some, ax_gbl, ax_gb2, ax_gd, Int.reduceEq, Int.reduceNe, Int.reduceLT, Int.reduceLE, Int.reduceAdd, Int.reduceSub, Int.reduceMul, Int.reduceNeg, reduceIte, ite_true, ite_false, true_and, and_true, false_and, and_false, true_or, or_true, false_or, or_false, not_true_eq_false, not_false_eq_true, and_self, or_self, eq_self, ite_self, decide_true, decide_false, Bool.true_and, Bool.and_true, Bool.and_self, Bool.false_and, Int.add_zero, Int.zero_add, ax_rw, if_pos, if_neg, ax_o_447, ax_a_448, kr_447_0, E3.1.2.1, Int.lt_irrefl]
        exact ax_ok_some ⟨C3, F3⟩
    · rw [if_neg h30]
      have E3 := NF_ME E (NF_trans F' F2)
      rw [aq_282_29]
      by_cases hn0 : 0 < n
      · simp (disch := first | assumption | omega) only [ax_gt, ax_gi, Option.bind_some, ax_gbl, ax_gb2, ax_gd, Int.reduceEq, Int.reduceNe, Int.reduceLT, Int.reduceLE, Int.reduceAdd, Int.reduceSub, Int.reduceMul, Int.reduceNeg, reduceIte, ite_true, ite_false, true_and, and_true, false_and, and_false, true_or, or_true, false_or, or_false, not_true_eq_false, not_false_eq_true, and_self, or_self, eq_self, ite_self, decide_true, decide_false, Bool.true_and, Bool.and_true, Bool.and_self, Bool.false_and, Int.add_zero, Int.zero_add, ax_rw, if_pos, if_neg, ax_o_447, ax_a_448, kr_447_0, E3.1.2.1, hn0, g47, w2, h30]
        exact ax_ok_some ⟨C2, NF_trans F' F2⟩
      · simp (disch := first | assumption | omega) only [ax_gt, ax_gi, Option.bind_some, ax_gbl, ax_gb2, ax_gd, Int.reduceEq, Int.reduceNe, Int.reduceLT, Int.reduceLE, Int.reduceAdd, Int.reduceSub, Int.reduceMul, Int.reduceNeg, reduceIte, ite_true, ite_false, true_and, and_true, false_and, and_false, true_or, or_true, false_or, or_false, not_true_eq_false, not_false_eq_true, and_self, or_self, eq_self, ite_self, decide_true, decide_false, Bool.true_and, Bool.and_true, Bool.and_self, Bool.false_and, Int.add_zero, Int.zero_add, ax_rw, if_pos, if_neg, ax_o_447, ax_a_448, kr_447_0, E3.1.2.1, hn0]
        exact ax_ok_some ⟨C2, NF_trans F' F2⟩
/-- the part of the row that the hands take -/
def RF (M M' : am_M) : Prop := ∀ c i, c ≠ 470 → c ≠ 471 → (c < 472 ∨ 477 < c) → ¬ (c = 447 ∧ i = 47) → ¬ (c = 448 ∧ 60 ≤ i ∧ i < 224) → am_rd M' c i = am_rd M c i
theorem m_keep {M1 M2 : am_M} {H' : Int → Int} (F : FH M 448 60 H) (f1 : NF M M1) (g1 : ∀ j, 0 ≤ j → j < 163 → am_rd M2 448 (60 + j) = H' j) (g2 : ∀ c i, ¬ (c = 448 ∧ 60 ≤ i ∧ i < 223) → am_rd M2 c i = am_rd M1 c i) (h163 : H' 163 = H 163) : FH M2 448 60 H' ∧ RF M M2 := by
  constructor
  · intro j j0 j1
    by_cases hj : j < 163
    · exact g1 j j0 hj
    · have : j = 163 := by omega
      subst this
      rw [g2 _ _ (by omega), f1 _ _ (by omega) (by omega) (by omega) (by omega), h163]
      exact F 163 (by omega) (by omega)
  · intro c i h1 h2 h3 h4 h5
    rw [g2 _ _ (by omega)]
    exact f1 c i h1 h2 h3 h4
theorem m_296 (hK : ax_K M) (F : FH M 448 60 H) (E : ME M T n al P W cd) (S : ES T n al P W cd) (B : HB T H) (hd : H 162 < 1300) (h163 : hNi T al P W cd 0 n H 163 = H 163) : ax_ok (am_Call d 296 [(2, 447)] M) (fun _ M' => FH M' 448 60 (hNi T al P W cd 0 n H) ∧ RF M M') := by
  obtain ⟨r1, M1, e1, C1, F1⟩ := m_88 (d := d) hK F
  have hK1 := ax_Kp e1 hK rfl
  obtain ⟨r2, M2, e2, C2, F2⟩ := m_282 (d := d) hK1 C1 (NF_ME E F1) S B hd
  have hK2 := ax_Kp e2 hK1 rfl
  obtain ⟨r3, M3, e3, g1, g2⟩ := m_89 (d := d) hK2 C2
  rw [aq_296]
  simp (disch := first | assumption | omega) only [ax_gt, ax_gi, Option.bind_some, ax_gbl, ax_gb2, ax_gd, Int.reduceEq, Int.reduceNe, Int.reduceLT, Int.reduceLE, Int.reduceAdd, Int.reduceSub, Int.reduceMul, Int.reduceNeg, reduceIte, ite_true, ite_false, true_and, and_true, false_and, and_false, true_or, or_true, false_or, or_false, not_true_eq_false, not_false_eq_true, and_self, or_self, eq_self, ite_self, decide_true, decide_false, Bool.true_and, Bool.and_true, Bool.and_self, Bool.false_and, Int.add_zero, Int.zero_add, ax_o_447, e1, e2, e3]
  exact ax_ok_some (m_keep F (NF_trans F1 F2) g1 g2 h163)
end
