/-! the hands as one row: RIGHT 0.., WRONG 48.., BEST 96.., SUNG 144.., TIED 150.., FREE 156.., DAY 162, X 163 -/
def hu (H : Int → Int) (i v : Int) : Int → Int := fun j => if j = i then v else H j
def hcl (lo hi v : Int) : Int := if v < lo then lo else if v ≤ hi then v else hi
def hR (H : Int → Int) (m t v : Int) : Int → Int := hu (hu H (8 * m + t) (hcl 0 99 v)) (96 + (8 * m + t)) (max (H (96 + (8 * m + t))) (hcl 0 99 v))
def hW (H : Int → Int) (m t v : Int) : Int → Int := hu H (48 + (8 * m + t)) (hcl 0 99 v)
/-- the developers' hands at the cell h hold H, n men being told -/
def CH (M : am_M) (h n : Int) (H : Int → Int) : Prop :=
  (∀ j, 0 ≤ j → j < 48 → am_rd M (h + 1) j = H j) ∧
  (∀ j, 0 ≤ j → j < 48 → am_rd M (h + 2) j = H (48 + j)) ∧
  (∀ j, 0 ≤ j → j < 48 → am_rd M (h + 3) j = H (96 + j)) ∧
  (∀ j, 0 ≤ j → j < 6 → am_rd M (h + 4) j = H (144 + j)) ∧
  (∀ j, 0 ≤ j → j < 6 → am_rd M (h + 5) j = if j < n then H (150 + j) else -1) ∧
  (0 ≤ am_rd M h 5 ∧ am_rd M h 5 < 64) ∧
  (∀ j, 0 ≤ j → j < 6 → am_and (am_shr (am_rd M h 5) j) 1 = H (156 + j)) ∧
  am_rd M h 6 = H 162 ∧ am_rd M h 7 = H 163
/-- nothing but the hands at h, and what the laws write, has changed -/
def HF (M M' : am_M) (h : Int) : Prop := ∀ c i, (c < h ∨ h + 5 < c) → c ≠ 40 → c ≠ 41 → am_rd M' c i = am_rd M c i
theorem HF_refl {M : am_M} {h : Int} : HF M M h := fun _ _ _ _ _ => rfl
theorem HF_trans {M M1 M2 : am_M} {h : Int} (a : HF M M1 h) (b : HF M1 M2 h) : HF M M2 h := fun c i h1 h2 h3 => (b c i h1 h2 h3).trans (a c i h1 h2 h3)
theorem CH_congr {M : am_M} {h n : Int} {H H' : Int → Int} (a : CH M h n H) (e : ∀ j, 0 ≤ j → j < 164 → H j = H' j) : CH M h n H' := by
  obtain ⟨r1, r2, r3, r4, r5, r6, r7, r8, r9⟩ := a
  refine ⟨fun j h0 h1 => by rw [← e j (by omega) (by omega)]; exact r1 j h0 h1, fun j h0 h1 => by rw [← e _ (by omega) (by omega)]; exact r2 j h0 h1, fun j h0 h1 => by rw [← e _ (by omega) (by omega)]; exact r3 j h0 h1, fun j h0 h1 => by rw [← e _ (by omega) (by omega)]; exact r4 j h0 h1, fun j h0 h1 => by rw [← e _ (by omega) (by omega)]; exact r5 j h0 h1, r6, fun j h0 h1 => by rw [← e _ (by omega) (by omega)]; exact r7 j h0 h1, by rw [← e _ (by omega) (by omega)]; exact r8, by rw [← e _ (by omega) (by omega)]; exact r9⟩
theorem CH_same {M M' : am_M} {h n : Int} {H : Int → Int} (a : CH M h n H) (e : ∀ c i, h ≤ c → c ≤ h + 5 → am_rd M' c i = am_rd M c i) : CH M' h n H := by
  obtain ⟨r1, r2, r3, r4, r5, r6, r7, r8, r9⟩ := a
  refine ⟨fun j h0 h1 => by rw [e _ _ (by omega) (by omega)]; exact r1 j h0 h1, fun j h0 h1 => by rw [e _ _ (by omega) (by omega)]; exact r2 j h0 h1, fun j h0 h1 => by rw [e _ _ (by omega) (by omega)]; exact r3 j h0 h1, fun j h0 h1 => by rw [e _ _ (by omega) (by omega)]; exact r4 j h0 h1, fun j h0 h1 => by rw [e _ _ (by omega) (by omega)]; exact r5 j h0 h1, by rw [e _ _ (by omega) (by omega)]; exact r6, fun j h0 h1 => by rw [e _ _ (by omega) (by omega)]; exact r7 j h0 h1, by rw [e _ _ (by omega) (by omega)]; exact r8, by rw [e _ _ (by omega) (by omega)]; exact r9⟩
/-- bounds; T turns being told -/
def HB (T : Int) (H : Int → Int) : Prop :=
  (∀ j, 0 ≤ j → j < 48 → (0 ≤ H j ∧ H j ≤ H (96 + j) ∧ H (96 + j) ≤ 99) ∧ (0 ≤ H (48 + j) ∧ H (48 + j) ≤ 99)) ∧
  (∀ j, 0 ≤ j → j < 6 → (0 ≤ H (144 + j) ∧ H (144 + j) < 256) ∧ (-1 ≤ H (150 + j) ∧ H (150 + j) < 8) ∧ (0 ≤ H (156 + j) ∧ H (156 + j) ≤ 1)) ∧
  (0 ≤ H 162 ∧ H 162 ≤ 1300) ∧ (0 ≤ H 163 ∧ H 163 < 30293) ∧
  (∀ m t, 0 ≤ m → m < 6 → T ≤ t → 0 ≤ t → t < 8 → H (96 + (8 * m + t)) = 0)
section
variable {M : am_M} {d : Nat} {h n : Int} {H : Int → Int} {m t : Int}
theorem c_23 (m0 : 0 ≤ m) (m1 : m < 6) (t0 : 0 ≤ t) (t1 : t < 8) : am_Call d 23 [(0, m), (0, t)] M = some (8 * m + t, M) := by
  rw [aq_23]
  simp (disch := first | assumption | omega) only [Int.reduceEq, Int.reduceNe, Int.reduceLT, Int.reduceLE, Int.reduceAdd, Int.reduceSub, Int.reduceMul, Int.reduceNeg, reduceIte, ite_true, ite_false, true_and, and_true, false_and, and_false, true_or, or_true, false_or, or_false, not_true_eq_false, not_false_eq_true, and_self, or_self, eq_self, ite_self, decide_true, decide_false, Bool.true_and, Bool.and_true, Bool.and_self, Bool.false_and, ax_rw, if_pos, if_neg, ax_w32]
  congr 2
  omega
theorem c_114 (hK : ax_K M) (hh : h = 8 ∨ h = 425) (C : CH M h n H) (m0 : 0 ≤ m) (m1 : m < 6) (t0 : 0 ≤ t) (t1 : t < 8) : am_Call d 114 [(2, h), (0, m), (0, t)] M = some (H (8 * m + t), M) := by
  obtain ⟨r1, r2, r3, r4, r5, r6, r7, r8, r9⟩ := C
  rw [aq_114]
  rcases hh with rfl | rfl
  all_goals
    simp (disch := first | assumption | omega) only [Int.reduceEq, Int.reduceNe, Int.reduceLT, Int.reduceLE, Int.reduceAdd, Int.reduceSub, Int.reduceMul, Int.reduceNeg, reduceIte, ite_true, ite_false, true_and, and_true, false_and, and_false, true_or, or_true, false_or, or_false, not_true_eq_false, not_false_eq_true, and_self, or_self, eq_self, ite_self, decide_true, decide_false, Bool.true_and, Bool.and_true, Bool.and_self, Bool.false_and] at r1
    simp (disch := first | assumption | omega) only [ax_gt, ax_gi, am_let, Option.bind_some, ax_gbl, ax_gb2, ax_gd, Int.reduceEq, Int.reduceNe, Int.reduceLT, Int.reduceLE, Int.reduceAdd, Int.reduceSub, Int.reduceMul, Int.reduceNeg, reduceIte, ite_true, ite_false, true_and, and_true, false_and, and_false, true_or, or_true, false_or, or_false, not_true_eq_false, not_false_eq_true, and_self, or_self, eq_self, ite_self, decide_true, decide_false, Bool.true_and, Bool.and_true, Bool.and_self, Bool.false_and, ax_rw, if_pos, if_neg, ax_o_8, kr_8_0, kr_8_1, kr_8_2, kr_8_3, kr_8_4, ax_a_9, ax_a_10, ax_a_11, ax_a_12, ax_a_13, ax_o_425, kr_425_0, kr_425_1, kr_425_2, kr_425_3, kr_425_4, ax_a_426, ax_a_427, ax_a_428, ax_a_429, ax_a_430, c_23, r1]
theorem c_115 (hK : ax_K M) (hh : h = 8 ∨ h = 425) (C : CH M h n H) (m0 : 0 ≤ m) (m1 : m < 6) (t0 : 0 ≤ t) (t1 : t < 8) : am_Call d 115 [(2, h), (0, m), (0, t)] M = some (H (48 + (8 * m + t)), M) := by
  obtain ⟨r1, r2, r3, r4, r5, r6, r7, r8, r9⟩ := C
  rw [aq_115]
  rcases hh with rfl | rfl
  all_goals
    simp (disch := first | assumption | omega) only [Int.reduceEq, Int.reduceNe, Int.reduceLT, Int.reduceLE, Int.reduceAdd, Int.reduceSub, Int.reduceMul, Int.reduceNeg, reduceIte, ite_true, ite_false, true_and, and_true, false_and, and_false, true_or, or_true, false_or, or_false, not_true_eq_false, not_false_eq_true, and_self, or_self, eq_self, ite_self, decide_true, decide_false, Bool.true_and, Bool.and_true, Bool.and_self, Bool.false_and] at r2
    simp (disch := first | assumption | omega) only [ax_gt, ax_gi, am_let, Option.bind_some, ax_gbl, ax_gb2, ax_gd, Int.reduceEq, Int.reduceNe, Int.reduceLT, Int.reduceLE, Int.reduceAdd, Int.reduceSub, Int.reduceMul, Int.reduceNeg, reduceIte, ite_true, ite_false, true_and, and_true, false_and, and_false, true_or, or_true, false_or, or_false, not_true_eq_false, not_false_eq_true, and_self, or_self, eq_self, ite_self, decide_true, decide_false, Bool.true_and, Bool.and_true, Bool.and_self, Bool.false_and, ax_rw, if_pos, if_neg, ax_o_8, kr_8_0, kr_8_1, kr_8_2, kr_8_3, kr_8_4, ax_a_9, ax_a_10, ax_a_11, ax_a_12, ax_a_13, ax_o_425, kr_425_0, kr_425_1, kr_425_2, kr_425_3, kr_425_4, ax_a_426, ax_a_427, ax_a_428, ax_a_429, ax_a_430, c_23, r2]
theorem c_116 (hK : ax_K M) (hh : h = 8 ∨ h = 425) (C : CH M h n H) (m0 : 0 ≤ m) (m1 : m < 6) (t0 : 0 ≤ t) (t1 : t < 8) : am_Call d 116 [(2, h), (0, m), (0, t)] M = some (H (96 + (8 * m + t)), M) := by
  obtain ⟨r1, r2, r3, r4, r5, r6, r7, r8, r9⟩ := C
  rw [aq_116]
  rcases hh with rfl | rfl
  all_goals
    simp (disch := first | assumption | omega) only [Int.reduceEq, Int.reduceNe, Int.reduceLT, Int.reduceLE, Int.reduceAdd, Int.reduceSub, Int.reduceMul, Int.reduceNeg, reduceIte, ite_true, ite_false, true_and, and_true, false_and, and_false, true_or, or_true, false_or, or_false, not_true_eq_false, not_false_eq_true, and_self, or_self, eq_self, ite_self, decide_true, decide_false, Bool.true_and, Bool.and_true, Bool.and_self, Bool.false_and] at r3
    simp (disch := first | assumption | omega) only [ax_gt, ax_gi, am_let, Option.bind_some, ax_gbl, ax_gb2, ax_gd, Int.reduceEq, Int.reduceNe, Int.reduceLT, Int.reduceLE, Int.reduceAdd, Int.reduceSub, Int.reduceMul, Int.reduceNeg, reduceIte, ite_true, ite_false, true_and, and_true, false_and, and_false, true_or, or_true, false_or, or_false, not_true_eq_false, not_false_eq_true, and_self, or_self, eq_self, ite_self, decide_true, decide_false, Bool.true_and, Bool.and_true, Bool.and_self, Bool.false_and, ax_rw, if_pos, if_neg, ax_o_8, kr_8_0, kr_8_1, kr_8_2, kr_8_3, kr_8_4, ax_a_9, ax_a_10, ax_a_11, ax_a_12, ax_a_13, ax_o_425, kr_425_0, kr_425_1, kr_425_2, kr_425_3, kr_425_4, ax_a_426, ax_a_427, ax_a_428, ax_a_429, ax_a_430, c_23, r3]
theorem c_117 (hK : ax_K M) (hh : h = 8 ∨ h = 425) (C : CH M h n H) (m0 : 0 ≤ m) (m1 : m < 6) (t0 : 0 ≤ t) (t1 : t < 8) : am_Call d 117 [(2, h), (0, m), (0, t)] M = some (ax_b (am_and (am_shr (H (144 + m)) t) 1 = 1), M) := by
  obtain ⟨r1, r2, r3, r4, r5, r6, r7, r8, r9⟩ := C
  rw [aq_117]
  rcases hh with rfl | rfl
  all_goals
    simp (disch := first | assumption | omega) only [Int.reduceEq, Int.reduceNe, Int.reduceLT, Int.reduceLE, Int.reduceAdd, Int.reduceSub, Int.reduceMul, Int.reduceNeg, reduceIte, ite_true, ite_false, true_and, and_true, false_and, and_false, true_or, or_true, false_or, or_false, not_true_eq_false, not_false_eq_true, and_self, or_self, eq_self, ite_self, decide_true, decide_false, Bool.true_and, Bool.and_true, Bool.and_self, Bool.false_and] at r4
    simp (disch := first | assumption | omega) only [ax_gt, ax_gi, am_let, Option.bind_some, ax_gbl, ax_gb2, ax_gd, Int.reduceEq, Int.reduceNe, Int.reduceLT, Int.reduceLE, Int.reduceAdd, Int.reduceSub, Int.reduceMul, Int.reduceNeg, reduceIte, ite_true, ite_false, true_and, and_true, false_and, and_false, true_or, or_true, false_or, or_false, not_true_eq_false, not_false_eq_true, and_self, or_self, eq_self, ite_self, decide_true, decide_false, Bool.true_and, Bool.and_true, Bool.and_self, Bool.false_and, ax_rw, if_pos, if_neg, ax_o_8, kr_8_0, kr_8_1, kr_8_2, kr_8_3, kr_8_4, ax_a_9, ax_a_10, ax_a_11, ax_a_12, ax_a_13, ax_o_425, kr_425_0, kr_425_1, kr_425_2, kr_425_3, kr_425_4, ax_a_426, ax_a_427, ax_a_428, ax_a_429, ax_a_430, c_23, r4, ax_a0]
    (unfold ax_b; (repeat' split) <;> first | rfl | (exfalso; omega))
theorem c_24 (hK : ax_K M) (hh : h = 8 ∨ h = 425) (C : CH M h n H) (m0 : 0 ≤ m) (m1 : m < 6) : am_Call d 24 [(2, h), (0, m)] M = some (if m < n then H (150 + m) else -1, M) := by
  obtain ⟨r1, r2, r3, r4, r5, r6, r7, r8, r9⟩ := C
  rw [aq_24]
  rcases hh with rfl | rfl
  all_goals
    simp (disch := first | assumption | omega) only [Int.reduceEq, Int.reduceNe, Int.reduceLT, Int.reduceLE, Int.reduceAdd, Int.reduceSub, Int.reduceMul, Int.reduceNeg, reduceIte, ite_true, ite_false, true_and, and_true, false_and, and_false, true_or, or_true, false_or, or_false, not_true_eq_false, not_false_eq_true, and_self, or_self, eq_self, ite_self, decide_true, decide_false, Bool.true_and, Bool.and_true, Bool.and_self, Bool.false_and] at r5
    simp (disch := first | assumption | omega) only [ax_gt, ax_gi, am_let, Option.bind_some, ax_gbl, ax_gb2, ax_gd, Int.reduceEq, Int.reduceNe, Int.reduceLT, Int.reduceLE, Int.reduceAdd, Int.reduceSub, Int.reduceMul, Int.reduceNeg, reduceIte, ite_true, ite_false, true_and, and_true, false_and, and_false, true_or, or_true, false_or, or_false, not_true_eq_false, not_false_eq_true, and_self, or_self, eq_self, ite_self, decide_true, decide_false, Bool.true_and, Bool.and_true, Bool.and_self, Bool.false_and, ax_rw, if_pos, if_neg, ax_o_8, kr_8_0, kr_8_1, kr_8_2, kr_8_3, kr_8_4, ax_a_9, ax_a_10, ax_a_11, ax_a_12, ax_a_13, ax_o_425, kr_425_0, kr_425_1, kr_425_2, kr_425_3, kr_425_4, ax_a_426, ax_a_427, ax_a_428, ax_a_429, ax_a_430, r5]
theorem c_25 (hK : ax_K M) (hh : h = 8 ∨ h = 425) (C : CH M h n H) (m0 : 0 ≤ m) (m1 : m < 6) : am_Call d 25 [(2, h), (0, m)] M = some (ax_b (¬ H (156 + m) = 0), M) := by
  obtain ⟨r1, r2, r3, r4, r5, r6, r7, r8, r9⟩ := C
  rw [aq_25]
  rcases hh with rfl | rfl
  all_goals
    simp (disch := first | assumption | omega) only [ax_gt, ax_gi, am_let, Option.bind_some, ax_gbl, ax_gb2, ax_gd, Int.reduceEq, Int.reduceNe, Int.reduceLT, Int.reduceLE, Int.reduceAdd, Int.reduceSub, Int.reduceMul, Int.reduceNeg, reduceIte, ite_true, ite_false, true_and, and_true, false_and, and_false, true_or, or_true, false_or, or_false, not_true_eq_false, not_false_eq_true, and_self, or_self, eq_self, ite_self, decide_true, decide_false, Bool.true_and, Bool.and_true, Bool.and_self, Bool.false_and, ax_rw, if_pos, if_neg, ax_o_8, kr_8_0, kr_8_1, kr_8_2, kr_8_3, kr_8_4, ax_a_9, ax_a_10, ax_a_11, ax_a_12, ax_a_13, ax_o_425, kr_425_0, kr_425_1, kr_425_2, kr_425_3, kr_425_4, ax_a_426, ax_a_427, ax_a_428, ax_a_429, ax_a_430, r7]
    (unfold ax_b; (repeat' split) <;> first | rfl | (exfalso; omega))
theorem c_28 (hK : ax_K M) (hh : h = 8 ∨ h = 425) (C : CH M h n H) (m0 : 0 ≤ m) (m1 : m < 6) : am_Call d 28 [(2, h), (0, m)] M = some (H (144 + m), M) := by
  obtain ⟨r1, r2, r3, r4, r5, r6, r7, r8, r9⟩ := C
  rw [aq_28]
  rcases hh with rfl | rfl
  all_goals
    simp (disch := first | assumption | omega) only [Int.reduceEq, Int.reduceNe, Int.reduceLT, Int.reduceLE, Int.reduceAdd, Int.reduceSub, Int.reduceMul, Int.reduceNeg, reduceIte, ite_true, ite_false, true_and, and_true, false_and, and_false, true_or, or_true, false_or, or_false, not_true_eq_false, not_false_eq_true, and_self, or_self, eq_self, ite_self, decide_true, decide_false, Bool.true_and, Bool.and_true, Bool.and_self, Bool.false_and] at r4
    simp (disch := first | assumption | omega) only [ax_gt, ax_gi, am_let, Option.bind_some, ax_gbl, ax_gb2, ax_gd, Int.reduceEq, Int.reduceNe, Int.reduceLT, Int.reduceLE, Int.reduceAdd, Int.reduceSub, Int.reduceMul, Int.reduceNeg, reduceIte, ite_true, ite_false, true_and, and_true, false_and, and_false, true_or, or_true, false_or, or_false, not_true_eq_false, not_false_eq_true, and_self, or_self, eq_self, ite_self, decide_true, decide_false, Bool.true_and, Bool.and_true, Bool.and_self, Bool.false_and, ax_rw, if_pos, if_neg, ax_o_8, kr_8_0, kr_8_1, kr_8_2, kr_8_3, kr_8_4, ax_a_9, ax_a_10, ax_a_11, ax_a_12, ax_a_13, ax_o_425, kr_425_0, kr_425_1, kr_425_2, kr_425_3, kr_425_4, ax_a_426, ax_a_427, ax_a_428, ax_a_429, ax_a_430, r4]
theorem c_118 (hK : ax_K M) (hh : h = 8 ∨ h = 425) (C : CH M h n H) (m0 : 0 ≤ m) (m1 : m < 6) (m2 : m < n) : am_Call d 118 [(2, h), (0, m), (0, t)] M = some (ax_b (H (156 + m) = 0 ∧ ¬ H (150 + m) = t), M) := by
  rw [aq_118]
  have c25 := fun d => c_25 (d := d) hK hh C m0 m1
  have c24 := fun d => c_24 (d := d) hK hh C m0 m1
  rcases hh with rfl | rfl
  all_goals
    simp (disch := first | assumption | omega) only [ax_gt, ax_gi, am_let, Option.bind_some, ax_gbl, ax_gb2, ax_gd, Int.reduceEq, Int.reduceNe, Int.reduceLT, Int.reduceLE, Int.reduceAdd, Int.reduceSub, Int.reduceMul, Int.reduceNeg, reduceIte, ite_true, ite_false, true_and, and_true, false_and, and_false, true_or, or_true, false_or, or_false, not_true_eq_false, not_false_eq_true, and_self, or_self, eq_self, ite_self, decide_true, decide_false, Bool.true_and, Bool.and_true, Bool.and_self, Bool.false_and, ax_rw, if_pos, if_neg, ax_o_8, kr_8_0, kr_8_1, kr_8_2, kr_8_3, kr_8_4, ax_a_9, ax_a_10, ax_a_11, ax_a_12, ax_a_13, ax_o_425, kr_425_0, kr_425_1, kr_425_2, kr_425_3, kr_425_4, ax_a_426, ax_a_427, ax_a_428, ax_a_429, ax_a_430, c25, c24, ax_b0]
    (unfold ax_b; (repeat' split) <;> first | rfl | (exfalso; omega))
theorem c_119 {v : Int} (hK : ax_K M) (hh : h = 8 ∨ h = 425) (C : CH M h n H) (m0 : 0 ≤ m) (m1 : m < 6) (t0 : 0 ≤ t) (t1 : t < 8) : ax_ok (am_Call d 119 [(2, h), (0, m), (0, t), (0, v)] M) (fun _ M' => CH M' h n (hR H m t v) ∧ HF M M' h) := by
  obtain ⟨r1, r2, r3, r4, r5, r6, r7, r8, r9⟩ := C
  have key : ∀ c : Int, hcl 0 99 v = c → am_Call d 119 [(2, h), (0, m), (0, t), (0, v)] M = some (0, am_wr (am_wr M (h + 1) (8 * m + t) c) (h + 3) (8 * m + t) (max (H (96 + (8 * m + t))) c)) := by
    intro c hc
    rw [aq_119]
    unfold hcl at hc
    rcases hh with rfl | rfl
    all_goals
      simp (disch := first | assumption | omega) only [Int.reduceEq, Int.reduceNe, Int.reduceLT, Int.reduceLE, Int.reduceAdd, Int.reduceSub, Int.reduceMul, Int.reduceNeg, reduceIte, ite_true, ite_false, true_and, and_true, false_and, and_false, true_or, or_true, false_or, or_false, not_true_eq_false, not_false_eq_true, and_self, or_self, eq_self, ite_self, decide_true, decide_false, Bool.true_and, Bool.and_true, Bool.and_self, Bool.false_and] at r1 r3
      by_cases h1 : v < 0
      · rw [if_pos h1] at hc
        subst hc
        simp (disch := first | assumption | omega) only [ax_gt, ax_gi, am_let, Option.bind_some, ax_gbl, ax_gb2, ax_gd, Int.reduceEq, Int.reduceNe, Int.reduceLT, Int.reduceLE, Int.reduceAdd, Int.reduceSub, Int.reduceMul, Int.reduceNeg, reduceIte, ite_true, ite_false, true_and, and_true, false_and, and_false, true_or, or_true, false_or, or_false, not_true_eq_false, not_false_eq_true, and_self, or_self, eq_self, ite_self, decide_true, decide_false, Bool.true_and, Bool.and_true, Bool.and_self, Bool.false_and, ax_rw, if_pos, if_neg, ax_o_8, kr_8_0, kr_8_1, kr_8_2, kr_8_3, kr_8_4, ax_a_9, ax_a_10, ax_a_11, ax_a_12, ax_a_13, ax_o_425, kr_425_0, kr_425_1, kr_425_2, kr_425_3, kr_425_4, ax_a_426, ax_a_427, ax_a_428, ax_a_429, ax_a_430, c_23, r3]
      · rw [if_neg h1] at hc
        by_cases h2 : v ≤ 99
        · rw [if_pos h2] at hc
          subst hc
          simp (disch := first | assumption | omega) only [ax_gt, ax_gi, am_let, Option.bind_some, ax_gbl, ax_gb2, ax_gd, Int.reduceEq, Int.reduceNe, Int.reduceLT, Int.reduceLE, Int.reduceAdd, Int.reduceSub, Int.reduceMul, Int.reduceNeg, reduceIte, ite_true, ite_false, true_and, and_true, false_and, and_false, true_or, or_true, false_or, or_false, not_true_eq_false, not_false_eq_true, and_self, or_self, eq_self, ite_self, decide_true, decide_false, Bool.true_and, Bool.and_true, Bool.and_self, Bool.false_and, ax_rw, if_pos, if_neg, ax_o_8, kr_8_0, kr_8_1, kr_8_2, kr_8_3, kr_8_4, ax_a_9, ax_a_10, ax_a_11, ax_a_12, ax_a_13, ax_o_425, kr_425_0, kr_425_1, kr_425_2, kr_425_3, kr_425_4, ax_a_426, ax_a_427, ax_a_428, ax_a_429, ax_a_430, c_23, r3]
        · rw [if_neg h2] at hc
          subst hc
          simp (disch := first | assumption | omega) only [ax_gt, ax_gi, am_let, Option.bind_some, ax_gbl, ax_gb2, ax_gd, Int.reduceEq, Int.reduceNe, Int.reduceLT, Int.reduceLE, Int.reduceAdd, Int.reduceSub, Int.reduceMul, Int.reduceNeg, reduceIte, ite_true, ite_false, true_and, and_true, false_and, and_false, true_or, or_true, false_or, or_false, not_true_eq_false, not_false_eq_true, and_self, or_self, eq_self, ite_self, decide_true, decide_false, Bool.true_and, Bool.and_true, Bool.and_self, Bool.false_and, ax_rw, if_pos, if_neg, ax_o_8, kr_8_0, kr_8_1, kr_8_2, kr_8_3, kr_8_4, ax_a_9, ax_a_10, ax_a_11, ax_a_12, ax_a_13, ax_o_425, kr_425_0, kr_425_1, kr_425_2, kr_425_3, kr_425_4, ax_a_426, ax_a_427, ax_a_428, ax_a_429, ax_a_430, c_23, r3]
  rw [key _ rfl]
  refine ax_ok_some ⟨⟨?_, ?_, ?_, ?_, ?_, ?_, ?_, ?_, ?_⟩, ?_⟩
  · intro j h0 h1
    by_cases hj : j = 8 * m + t <;> simp (disch := first | assumption | omega) only [Int.reduceEq, Int.reduceNe, Int.reduceLT, Int.reduceLE, Int.reduceAdd, Int.reduceSub, Int.reduceMul, Int.reduceNeg, reduceIte, ite_true, ite_false, true_and, and_true, false_and, and_false, true_or, or_true, false_or, or_false, not_true_eq_false, not_false_eq_true, and_self, or_self, eq_self, ite_self, decide_true, decide_false, Bool.true_and, Bool.and_true, Bool.and_self, Bool.false_and, ax_rw, if_pos, if_neg, hR, hu, r1]
  · intro j h0 h1
    simp (disch := first | assumption | omega) only [Int.reduceEq, Int.reduceNe, Int.reduceLT, Int.reduceLE, Int.reduceAdd, Int.reduceSub, Int.reduceMul, Int.reduceNeg, reduceIte, ite_true, ite_false, true_and, and_true, false_and, and_false, true_or, or_true, false_or, or_false, not_true_eq_false, not_false_eq_true, and_self, or_self, eq_self, ite_self, decide_true, decide_false, Bool.true_and, Bool.and_true, Bool.and_self, Bool.false_and, ax_rw, if_pos, if_neg, hR, hu, r2]
  · intro j h0 h1
    by_cases hj : j = 8 * m + t <;> simp (disch := first | assumption | omega) only [Int.reduceEq, Int.reduceNe, Int.reduceLT, Int.reduceLE, Int.reduceAdd, Int.reduceSub, Int.reduceMul, Int.reduceNeg, reduceIte, ite_true, ite_false, true_and, and_true, false_and, and_false, true_or, or_true, false_or, or_false, not_true_eq_false, not_false_eq_true, and_self, or_self, eq_self, ite_self, decide_true, decide_false, Bool.true_and, Bool.and_true, Bool.and_self, Bool.false_and, ax_rw, if_pos, if_neg, hR, hu, r3]
  · intro j h0 h1
    simp (disch := first | assumption | omega) only [Int.reduceEq, Int.reduceNe, Int.reduceLT, Int.reduceLE, Int.reduceAdd, Int.reduceSub, Int.reduceMul, Int.reduceNeg, reduceIte, ite_true, ite_false, true_and, and_true, false_and, and_false, true_or, or_true, false_or, or_false, not_true_eq_false, not_false_eq_true, and_self, or_self, eq_self, ite_self, decide_true, decide_false, Bool.true_and, Bool.and_true, Bool.and_self, Bool.false_and, ax_rw, if_pos, if_neg, hR, hu, r4]
  · intro j h0 h1
    simp (disch := first | assumption | omega) only [Int.reduceEq, Int.reduceNe, Int.reduceLT, Int.reduceLE, Int.reduceAdd, Int.reduceSub, Int.reduceMul, Int.reduceNeg, reduceIte, ite_true, ite_false, true_and, and_true, false_and, and_false, true_or, or_true, false_or, or_false, not_true_eq_false, not_false_eq_true, and_self, or_self, eq_self, ite_self, decide_true, decide_false, Bool.true_and, Bool.and_true, Bool.and_self, Bool.false_and, ax_rw, if_neg, hR, hu, r5]
  · simp (disch := first | assumption | omega) only [Int.reduceEq, Int.reduceNe, Int.reduceLT, Int.reduceLE, Int.reduceAdd, Int.reduceSub, Int.reduceMul, Int.reduceNeg, reduceIte, ite_true, ite_false, true_and, and_true, false_and, and_false, true_or, or_true, false_or, or_false, not_true_eq_false, not_false_eq_true, and_self, or_self, eq_self, ite_self, decide_true, decide_false, Bool.true_and, Bool.and_true, Bool.and_self, Bool.false_and, ax_rw, if_neg]
    exact r6
  · intro j h0 h1
    simp (disch := first | assumption | omega) only [Int.reduceEq, Int.reduceNe, Int.reduceLT, Int.reduceLE, Int.reduceAdd, Int.reduceSub, Int.reduceMul, Int.reduceNeg, reduceIte, ite_true, ite_false, true_and, and_true, false_and, and_false, true_or, or_true, false_or, or_false, not_true_eq_false, not_false_eq_true, and_self, or_self, eq_self, ite_self, decide_true, decide_false, Bool.true_and, Bool.and_true, Bool.and_self, Bool.false_and, ax_rw, if_pos, if_neg, hR, hu, r7]
  · simp (disch := first | assumption | omega) only [Int.reduceEq, Int.reduceNe, Int.reduceLT, Int.reduceLE, Int.reduceAdd, Int.reduceSub, Int.reduceMul, Int.reduceNeg, reduceIte, ite_true, ite_false, true_and, and_true, false_and, and_false, true_or, or_true, false_or, or_false, not_true_eq_false, not_false_eq_true, and_self, or_self, eq_self, ite_self, decide_true, decide_false, Bool.true_and, Bool.and_true, Bool.and_self, Bool.false_and, ax_rw, if_pos, if_neg, hR, hu, r8]
  · simp (disch := first | assumption | omega) only [Int.reduceEq, Int.reduceNe, Int.reduceLT, Int.reduceLE, Int.reduceAdd, Int.reduceSub, Int.reduceMul, Int.reduceNeg, reduceIte, ite_true, ite_false, true_and, and_true, false_and, and_false, true_or, or_true, false_or, or_false, not_true_eq_false, not_false_eq_true, and_self, or_self, eq_self, ite_self, decide_true, decide_false, Bool.true_and, Bool.and_true, Bool.and_self, Bool.false_and, ax_rw, if_pos, if_neg, hR, hu, r9]
  · intro c i h1 _ _
    simp (disch := first | assumption | omega) only [Int.reduceEq, Int.reduceNe, Int.reduceLT, Int.reduceLE, Int.reduceAdd, Int.reduceSub, Int.reduceMul, Int.reduceNeg, reduceIte, ite_true, ite_false, true_and, and_true, false_and, and_false, true_or, or_true, false_or, or_false, not_true_eq_false, not_false_eq_true, and_self, or_self, eq_self, ite_self, decide_true, decide_false, Bool.true_and, Bool.and_true, Bool.and_self, Bool.false_and, ax_rw, if_pos, if_neg]
theorem c_120 {v : Int} (hK : ax_K M) (hh : h = 8 ∨ h = 425) (C : CH M h n H) (m0 : 0 ≤ m) (m1 : m < 6) (t0 : 0 ≤ t) (t1 : t < 8) : ax_ok (am_Call d 120 [(2, h), (0, m), (0, t), (0, v)] M) (fun _ M' => CH M' h n (hW H m t v) ∧ HF M M' h) := by
  obtain ⟨r1, r2, r3, r4, r5, r6, r7, r8, r9⟩ := C
  have key : ∀ c : Int, hcl 0 99 v = c → am_Call d 120 [(2, h), (0, m), (0, t), (0, v)] M = some (0, am_wr M (h + 2) (8 * m + t) c) := by
    intro c hc
    rw [aq_120]
    unfold hcl at hc
    rcases hh with rfl | rfl
    all_goals
      by_cases h1 : v < 0
      · rw [if_pos h1] at hc
        subst hc
        simp (disch := first | assumption | omega) only [ax_gt, ax_gi, am_let, Option.bind_some, ax_gbl, ax_gb2, ax_gd, Int.reduceEq, Int.reduceNe, Int.reduceLT, Int.reduceLE, Int.reduceAdd, Int.reduceSub, Int.reduceMul, Int.reduceNeg, reduceIte, ite_true, ite_false, true_and, and_true, false_and, and_false, true_or, or_true, false_or, or_false, not_true_eq_false, not_false_eq_true, and_self, or_self, eq_self, ite_self, decide_true, decide_false, Bool.true_and, Bool.and_true, Bool.and_self, Bool.false_and, ax_rw, if_pos, if_neg, ax_o_8, kr_8_0, kr_8_1, kr_8_2, kr_8_3, kr_8_4, ax_a_9, ax_a_10, ax_a_11, ax_a_12, ax_a_13, ax_o_425, kr_425_0, kr_425_1, kr_425_2, kr_425_3, kr_425_4, ax_a_426, ax_a_427, ax_a_428, ax_a_429, ax_a_430, c_23]
      · rw [if_neg h1] at hc
        by_cases h2 : v ≤ 99
        · rw [if_pos h2] at hc
          subst hc
          simp (disch := first | assumption | omega) only [ax_gt, ax_gi, am_let, Option.bind_some, ax_gbl, ax_gb2, ax_gd, Int.reduceEq, Int.reduceNe, Int.reduceLT, Int.reduceLE, Int.reduceAdd, Int.reduceSub, Int.reduceMul, Int.reduceNeg, reduceIte, ite_true, ite_false, true_and, and_true, false_and, and_false, true_or, or_true, false_or, or_false, not_true_eq_false, not_false_eq_true, and_self, or_self, eq_self, ite_self, decide_true, decide_false, Bool.true_and, Bool.and_true, Bool.and_self, Bool.false_and, ax_rw, if_pos, if_neg, ax_o_8, kr_8_0, kr_8_1, kr_8_2, kr_8_3, kr_8_4, ax_a_9, ax_a_10, ax_a_11, ax_a_12, ax_a_13, ax_o_425, kr_425_0, kr_425_1, kr_425_2, kr_425_3, kr_425_4, ax_a_426, ax_a_427, ax_a_428, ax_a_429, ax_a_430, c_23]
        · rw [if_neg h2] at hc
          subst hc
          simp (disch := first | assumption | omega) only [ax_gt, ax_gi, am_let, Option.bind_some, ax_gbl, ax_gb2, ax_gd, Int.reduceEq, Int.reduceNe, Int.reduceLT, Int.reduceLE, Int.reduceAdd, Int.reduceSub, Int.reduceMul, Int.reduceNeg, reduceIte, ite_true, ite_false, true_and, and_true, false_and, and_false, true_or, or_true, false_or, or_false, not_true_eq_false, not_false_eq_true, and_self, or_self, eq_self, ite_self, decide_true, decide_false, Bool.true_and, Bool.and_true, Bool.and_self, Bool.false_and, ax_rw, if_pos, if_neg, ax_o_8, kr_8_0, kr_8_1, kr_8_2, kr_8_3, kr_8_4, ax_a_9, ax_a_10, ax_a_11, ax_a_12, ax_a_13, ax_o_425, kr_425_0, kr_425_1, kr_425_2, kr_425_3, kr_425_4, ax_a_426, ax_a_427, ax_a_428, ax_a_429, ax_a_430, c_23]
  rw [key _ rfl]
  refine ax_ok_some ⟨⟨?_, ?_, ?_, ?_, ?_, ?_, ?_, ?_, ?_⟩, ?_⟩
  · intro j h0 h1
    simp (disch := first | assumption | omega) only [Int.reduceEq, Int.reduceNe, Int.reduceLT, Int.reduceLE, Int.reduceAdd, Int.reduceSub, Int.reduceMul, Int.reduceNeg, reduceIte, ite_true, ite_false, true_and, and_true, false_and, and_false, true_or, or_true, false_or, or_false, not_true_eq_false, not_false_eq_true, and_self, or_self, eq_self, ite_self, decide_true, decide_false, Bool.true_and, Bool.and_true, Bool.and_self, Bool.false_and, ax_rw, if_pos, if_neg, hW, hu, r1]
  · intro j h0 h1
    by_cases hj : j = 8 * m + t <;> simp (disch := first | assumption | omega) only [Int.reduceEq, Int.reduceNe, Int.reduceLT, Int.reduceLE, Int.reduceAdd, Int.reduceSub, Int.reduceMul, Int.reduceNeg, reduceIte, ite_true, ite_false, true_and, and_true, false_and, and_false, true_or, or_true, false_or, or_false, not_true_eq_false, not_false_eq_true, and_self, or_self, eq_self, ite_self, decide_true, decide_false, Bool.true_and, Bool.and_true, Bool.and_self, Bool.false_and, ax_rw, if_pos, if_neg, hW, hu, r2]
  · intro j h0 h1
    simp (disch := first | assumption | omega) only [Int.reduceEq, Int.reduceNe, Int.reduceLT, Int.reduceLE, Int.reduceAdd, Int.reduceSub, Int.reduceMul, Int.reduceNeg, reduceIte, ite_true, ite_false, true_and, and_true, false_and, and_false, true_or, or_true, false_or, or_false, not_true_eq_false, not_false_eq_true, and_self, or_self, eq_self, ite_self, decide_true, decide_false, Bool.true_and, Bool.and_true, Bool.and_self, Bool.false_and, ax_rw, if_pos, if_neg, hW, hu, r3]
  · intro j h0 h1
    simp (disch := first | assumption | omega) only [Int.reduceEq, Int.reduceNe, Int.reduceLT, Int.reduceLE, Int.reduceAdd, Int.reduceSub, Int.reduceMul, Int.reduceNeg, reduceIte, ite_true, ite_false, true_and, and_true, false_and, and_false, true_or, or_true, false_or, or_false, not_true_eq_false, not_false_eq_true, and_self, or_self, eq_self, ite_self, decide_true, decide_false, Bool.true_and, Bool.and_true, Bool.and_self, Bool.false_and, ax_rw, if_pos, if_neg, hW, hu, r4]
  · intro j h0 h1
    simp (disch := first | assumption | omega) only [Int.reduceEq, Int.reduceNe, Int.reduceLT, Int.reduceLE, Int.reduceAdd, Int.reduceSub, Int.reduceMul, Int.reduceNeg, reduceIte, ite_true, ite_false, true_and, and_true, false_and, and_false, true_or, or_true, false_or, or_false, not_true_eq_false, not_false_eq_true, and_self, or_self, eq_self, ite_self, decide_true, decide_false, Bool.true_and, Bool.and_true, Bool.and_self, Bool.false_and, ax_rw, if_neg, hW, hu, r5]
  · simp (disch := first | assumption | omega) only [Int.reduceEq, Int.reduceNe, Int.reduceLT, Int.reduceLE, Int.reduceAdd, Int.reduceSub, Int.reduceMul, Int.reduceNeg, reduceIte, ite_true, ite_false, true_and, and_true, false_and, and_false, true_or, or_true, false_or, or_false, not_true_eq_false, not_false_eq_true, and_self, or_self, eq_self, ite_self, decide_true, decide_false, Bool.true_and, Bool.and_true, Bool.and_self, Bool.false_and, ax_rw, if_neg]
    exact r6
  · intro j h0 h1
    simp (disch := first | assumption | omega) only [Int.reduceEq, Int.reduceNe, Int.reduceLT, Int.reduceLE, Int.reduceAdd, Int.reduceSub, Int.reduceMul, Int.reduceNeg, reduceIte, ite_true, ite_false, true_and, and_true, false_and, and_false, true_or, or_true, false_or, or_false, not_true_eq_false, not_false_eq_true, and_self, or_self, eq_self, ite_self, decide_true, decide_false, Bool.true_and, Bool.and_true, Bool.and_self, Bool.false_and, ax_rw, if_pos, if_neg, hW, hu, r7]
  · simp (disch := first | assumption | omega) only [Int.reduceEq, Int.reduceNe, Int.reduceLT, Int.reduceLE, Int.reduceAdd, Int.reduceSub, Int.reduceMul, Int.reduceNeg, reduceIte, ite_true, ite_false, true_and, and_true, false_and, and_false, true_or, or_true, false_or, or_false, not_true_eq_false, not_false_eq_true, and_self, or_self, eq_self, ite_self, decide_true, decide_false, Bool.true_and, Bool.and_true, Bool.and_self, Bool.false_and, ax_rw, if_pos, if_neg, hW, hu, r8]
  · simp (disch := first | assumption | omega) only [Int.reduceEq, Int.reduceNe, Int.reduceLT, Int.reduceLE, Int.reduceAdd, Int.reduceSub, Int.reduceMul, Int.reduceNeg, reduceIte, ite_true, ite_false, true_and, and_true, false_and, and_false, true_or, or_true, false_or, or_false, not_true_eq_false, not_false_eq_true, and_self, or_self, eq_self, ite_self, decide_true, decide_false, Bool.true_and, Bool.and_true, Bool.and_self, Bool.false_and, ax_rw, if_pos, if_neg, hW, hu, r9]
  · intro c i h1 _ _
    simp (disch := first | assumption | omega) only [Int.reduceEq, Int.reduceNe, Int.reduceLT, Int.reduceLE, Int.reduceAdd, Int.reduceSub, Int.reduceMul, Int.reduceNeg, reduceIte, ite_true, ite_false, true_and, and_true, false_and, and_false, true_or, or_true, false_or, or_false, not_true_eq_false, not_false_eq_true, and_self, or_self, eq_self, ite_self, decide_true, decide_false, Bool.true_and, Bool.and_true, Bool.and_self, Bool.false_and, ax_rw, if_pos, if_neg]
theorem c_121 (hK : ax_K M) (hh : h = 8 ∨ h = 425) (C : CH M h n H) (m0 : 0 ≤ m) (m1 : m < 6) (t0 : 0 ≤ t) (t1 : t < 8) : ax_ok (am_Call d 121 [(2, h), (0, m), (0, t)] M) (fun _ M' => CH M' h n (hu H (144 + m) (am_xor (H (144 + m)) (am_shl 1 t))) ∧ HF M M' h) := by
  obtain ⟨r1, r2, r3, r4, r5, r6, r7, r8, r9⟩ := C
  have key : am_Call d 121 [(2, h), (0, m), (0, t)] M = some (0, am_wr M (h + 4) m (am_xor (H (144 + m)) (am_shl 1 t))) := by
    rw [aq_121]
    rcases hh with rfl | rfl
    all_goals
      simp (disch := first | assumption | omega) only [Int.reduceEq, Int.reduceNe, Int.reduceLT, Int.reduceLE, Int.reduceAdd, Int.reduceSub, Int.reduceMul, Int.reduceNeg, reduceIte, ite_true, ite_false, true_and, and_true, false_and, and_false, true_or, or_true, false_or, or_false, not_true_eq_false, not_false_eq_true, and_self, or_self, eq_self, ite_self, decide_true, decide_false, Bool.true_and, Bool.and_true, Bool.and_self, Bool.false_and] at r4
      simp (disch := first | assumption | omega) only [ax_gt, ax_gi, am_let, Option.bind_some, ax_gbl, ax_gb2, ax_gd, Int.reduceEq, Int.reduceNe, Int.reduceLT, Int.reduceLE, Int.reduceAdd, Int.reduceSub, Int.reduceMul, Int.reduceNeg, reduceIte, ite_true, ite_false, true_and, and_true, false_and, and_false, true_or, or_true, false_or, or_false, not_true_eq_false, not_false_eq_true, and_self, or_self, eq_self, ite_self, decide_true, decide_false, Bool.true_and, Bool.and_true, Bool.and_self, Bool.false_and, ax_rw, if_pos, if_neg, ax_o_8, kr_8_0, kr_8_1, kr_8_2, kr_8_3, kr_8_4, ax_a_9, ax_a_10, ax_a_11, ax_a_12, ax_a_13, ax_o_425, kr_425_0, kr_425_1, kr_425_2, kr_425_3, kr_425_4, ax_a_426, ax_a_427, ax_a_428, ax_a_429, ax_a_430, c_23, r4]
  rw [key]
  refine ax_ok_some ⟨⟨?_, ?_, ?_, ?_, ?_, ?_, ?_, ?_, ?_⟩, ?_⟩
  · intro j h0 h1
    simp (disch := first | assumption | omega) only [Int.reduceEq, Int.reduceNe, Int.reduceLT, Int.reduceLE, Int.reduceAdd, Int.reduceSub, Int.reduceMul, Int.reduceNeg, reduceIte, ite_true, ite_false, true_and, and_true, false_and, and_false, true_or, or_true, false_or, or_false, not_true_eq_false, not_false_eq_true, and_self, or_self, eq_self, ite_self, decide_true, decide_false, Bool.true_and, Bool.and_true, Bool.and_self, Bool.false_and, ax_rw, if_pos, if_neg, hu, r1]
  · intro j h0 h1
    simp (disch := first | assumption | omega) only [Int.reduceEq, Int.reduceNe, Int.reduceLT, Int.reduceLE, Int.reduceAdd, Int.reduceSub, Int.reduceMul, Int.reduceNeg, reduceIte, ite_true, ite_false, true_and, and_true, false_and, and_false, true_or, or_true, false_or, or_false, not_true_eq_false, not_false_eq_true, and_self, or_self, eq_self, ite_self, decide_true, decide_false, Bool.true_and, Bool.and_true, Bool.and_self, Bool.false_and, ax_rw, if_pos, if_neg, hu, r2]
  · intro j h0 h1
    simp (disch := first | assumption | omega) only [Int.reduceEq, Int.reduceNe, Int.reduceLT, Int.reduceLE, Int.reduceAdd, Int.reduceSub, Int.reduceMul, Int.reduceNeg, reduceIte, ite_true, ite_false, true_and, and_true, false_and, and_false, true_or, or_true, false_or, or_false, not_true_eq_false, not_false_eq_true, and_self, or_self, eq_self, ite_self, decide_true, decide_false, Bool.true_and, Bool.and_true, Bool.and_self, Bool.false_and, ax_rw, if_pos, if_neg, hu, r3]
  · intro j h0 h1
    by_cases hj : j = m <;> simp (disch := first | assumption | omega) only [Int.reduceEq, Int.reduceNe, Int.reduceLT, Int.reduceLE, Int.reduceAdd, Int.reduceSub, Int.reduceMul, Int.reduceNeg, reduceIte, ite_true, ite_false, true_and, and_true, false_and, and_false, true_or, or_true, false_or, or_false, not_true_eq_false, not_false_eq_true, and_self, or_self, eq_self, ite_self, decide_true, decide_false, Bool.true_and, Bool.and_true, Bool.and_self, Bool.false_and, ax_rw, if_pos, if_neg, hu, r4]
  · intro j h0 h1
    simp (disch := first | assumption | omega) only [Int.reduceEq, Int.reduceNe, Int.reduceLT, Int.reduceLE, Int.reduceAdd, Int.reduceSub, Int.reduceMul, Int.reduceNeg, reduceIte, ite_true, ite_false, true_and, and_true, false_and, and_false, true_or, or_true, false_or, or_false, not_true_eq_false, not_false_eq_true, and_self, or_self, eq_self, ite_self, decide_true, decide_false, Bool.true_and, Bool.and_true, Bool.and_self, Bool.false_and, ax_rw, if_neg, hu, r5]
  · simp (disch := first | assumption | omega) only [Int.reduceEq, Int.reduceNe, Int.reduceLT, Int.reduceLE, Int.reduceAdd, Int.reduceSub, Int.reduceMul, Int.reduceNeg, reduceIte, ite_true, ite_false, true_and, and_true, false_and, and_false, true_or, or_true, false_or, or_false, not_true_eq_false, not_false_eq_true, and_self, or_self, eq_self, ite_self, decide_true, decide_false, Bool.true_and, Bool.and_true, Bool.and_self, Bool.false_and, ax_rw, if_neg]
    exact r6
  · intro j h0 h1
    simp (disch := first | assumption | omega) only [Int.reduceEq, Int.reduceNe, Int.reduceLT, Int.reduceLE, Int.reduceAdd, Int.reduceSub, Int.reduceMul, Int.reduceNeg, reduceIte, ite_true, ite_false, true_and, and_true, false_and, and_false, true_or, or_true, false_or, or_false, not_true_eq_false, not_false_eq_true, and_self, or_self, eq_self, ite_self, decide_true, decide_false, Bool.true_and, Bool.and_true, Bool.and_self, Bool.false_and, ax_rw, if_pos, if_neg, hu, r7]
  · simp (disch := first | assumption | omega) only [Int.reduceEq, Int.reduceNe, Int.reduceLT, Int.reduceLE, Int.reduceAdd, Int.reduceSub, Int.reduceMul, Int.reduceNeg, reduceIte, ite_true, ite_false, true_and, and_true, false_and, and_false, true_or, or_true, false_or, or_false, not_true_eq_false, not_false_eq_true, and_self, or_self, eq_self, ite_self, decide_true, decide_false, Bool.true_and, Bool.and_true, Bool.and_self, Bool.false_and, ax_rw, if_pos, if_neg, hu, r8]
  · simp (disch := first | assumption | omega) only [Int.reduceEq, Int.reduceNe, Int.reduceLT, Int.reduceLE, Int.reduceAdd, Int.reduceSub, Int.reduceMul, Int.reduceNeg, reduceIte, ite_true, ite_false, true_and, and_true, false_and, and_false, true_or, or_true, false_or, or_false, not_true_eq_false, not_false_eq_true, and_self, or_self, eq_self, ite_self, decide_true, decide_false, Bool.true_and, Bool.and_true, Bool.and_self, Bool.false_and, ax_rw, if_pos, if_neg, hu, r9]
  · intro c i h1 _ _
    simp (disch := first | assumption | omega) only [Int.reduceEq, Int.reduceNe, Int.reduceLT, Int.reduceLE, Int.reduceAdd, Int.reduceSub, Int.reduceMul, Int.reduceNeg, reduceIte, ite_true, ite_false, true_and, and_true, false_and, and_false, true_or, or_true, false_or, or_false, not_true_eq_false, not_false_eq_true, and_self, or_self, eq_self, ite_self, decide_true, decide_false, Bool.true_and, Bool.and_true, Bool.and_self, Bool.false_and, ax_rw, if_pos, if_neg]
theorem c_26 (hK : ax_K M) (C : CH M 8 n H) (m0 : 0 ≤ m) (m1 : m < 6) (m2 : m < n) : ax_ok (am_Call d 26 [(2, 8), (0, m), (0, t)] M) (fun _ M' => CH M' 8 n (hu H (150 + m) t) ∧ HF M M' 8) := by
  obtain ⟨r1, r2, r3, r4, r5, r6, r7, r8, r9⟩ := C
  have key : am_Call d 26 [(2, 8), (0, m), (0, t)] M = some (0, am_wr M (8 + 5) m t) := by
    rw [aq_26]
    simp (disch := first | assumption | omega) only [ax_gt, ax_gi, am_let, Option.bind_some, ax_gbl, ax_gb2, ax_gd, Int.reduceEq, Int.reduceNe, Int.reduceLT, Int.reduceLE, Int.reduceAdd, Int.reduceSub, Int.reduceMul, Int.reduceNeg, reduceIte, ite_true, ite_false, true_and, and_true, false_and, and_false, true_or, or_true, false_or, or_false, not_true_eq_false, not_false_eq_true, and_self, or_self, eq_self, ite_self, decide_true, decide_false, Bool.true_and, Bool.and_true, Bool.and_self, Bool.false_and, ax_rw, if_pos, if_neg, ax_o_8, kr_8_0, kr_8_1, kr_8_2, kr_8_3, kr_8_4, ax_a_9, ax_a_10, ax_a_11, ax_a_12, ax_a_13, ax_o_425, kr_425_0, kr_425_1, kr_425_2, kr_425_3, kr_425_4, ax_a_426, ax_a_427, ax_a_428, ax_a_429, ax_a_430]
  rw [key]
  refine ax_ok_some ⟨⟨?_, ?_, ?_, ?_, ?_, ?_, ?_, ?_, ?_⟩, ?_⟩
  · intro j h0 h1
    simp (disch := first | assumption | omega) only [Int.reduceEq, Int.reduceNe, Int.reduceLT, Int.reduceLE, Int.reduceAdd, Int.reduceSub, Int.reduceMul, Int.reduceNeg, reduceIte, ite_true, ite_false, true_and, and_true, false_and, and_false, true_or, or_true, false_or, or_false, not_true_eq_false, not_false_eq_true, and_self, or_self, eq_self, ite_self, decide_true, decide_false, Bool.true_and, Bool.and_true, Bool.and_self, Bool.false_and, ax_rw, if_pos, if_neg, hu]
    exact r1 j h0 h1
  · intro j h0 h1
    simp (disch := first | assumption | omega) only [Int.reduceEq, Int.reduceNe, Int.reduceLT, Int.reduceLE, Int.reduceAdd, Int.reduceSub, Int.reduceMul, Int.reduceNeg, reduceIte, ite_true, ite_false, true_and, and_true, false_and, and_false, true_or, or_true, false_or, or_false, not_true_eq_false, not_false_eq_true, and_self, or_self, eq_self, ite_self, decide_true, decide_false, Bool.true_and, Bool.and_true, Bool.and_self, Bool.false_and, ax_rw, if_pos, if_neg, hu]
    exact r2 j h0 h1
  · intro j h0 h1
    simp (disch := first | assumption | omega) only [Int.reduceEq, Int.reduceNe, Int.reduceLT, Int.reduceLE, Int.reduceAdd, Int.reduceSub, Int.reduceMul, Int.reduceNeg, reduceIte, ite_true, ite_false, true_and, and_true, false_and, and_false, true_or, or_true, false_or, or_false, not_true_eq_false, not_false_eq_true, and_self, or_self, eq_self, ite_self, decide_true, decide_false, Bool.true_and, Bool.and_true, Bool.and_self, Bool.false_and, ax_rw, if_pos, if_neg, hu]
    exact r3 j h0 h1
  · intro j h0 h1
    simp (disch := first | assumption | omega) only [Int.reduceEq, Int.reduceNe, Int.reduceLT, Int.reduceLE, Int.reduceAdd, Int.reduceSub, Int.reduceMul, Int.reduceNeg, reduceIte, ite_true, ite_false, true_and, and_true, false_and, and_false, true_or, or_true, false_or, or_false, not_true_eq_false, not_false_eq_true, and_self, or_self, eq_self, ite_self, decide_true, decide_false, Bool.true_and, Bool.and_true, Bool.and_self, Bool.false_and, ax_rw, if_pos, if_neg, hu]
    exact r4 j h0 h1
  · intro j h0 h1
    by_cases hj : j = m
    · simp (disch := first | assumption | omega) only [Int.reduceEq, Int.reduceNe, Int.reduceLT, Int.reduceLE, Int.reduceAdd, Int.reduceSub, Int.reduceMul, Int.reduceNeg, reduceIte, ite_true, ite_false, true_and, and_true, false_and, and_false, true_or, or_true, false_or, or_false, not_true_eq_false, not_false_eq_true, and_self, or_self, eq_self, ite_self, decide_true, decide_false, Bool.true_and, Bool.and_true, Bool.and_self, Bool.false_and, ax_rw, if_pos, if_neg, hu]
    · have e := r5 j h0 h1
      simp (disch := first | assumption | omega) only [Int.reduceEq, Int.reduceNe, Int.reduceLT, Int.reduceLE, Int.reduceAdd, Int.reduceSub, Int.reduceMul, Int.reduceNeg, reduceIte, ite_true, ite_false, true_and, and_true, false_and, and_false, true_or, or_true, false_or, or_false, not_true_eq_false, not_false_eq_true, and_self, or_self, eq_self, ite_self, decide_true, decide_false, Bool.true_and, Bool.and_true, Bool.and_self, Bool.false_and, ax_rw, if_neg, hu]
      exact e
  · simp (disch := first | assumption | omega) only [Int.reduceEq, Int.reduceNe, Int.reduceLT, Int.reduceLE, Int.reduceAdd, Int.reduceSub, Int.reduceMul, Int.reduceNeg, reduceIte, ite_true, ite_false, true_and, and_true, false_and, and_false, true_or, or_true, false_or, or_false, not_true_eq_false, not_false_eq_true, and_self, or_self, eq_self, ite_self, decide_true, decide_false, Bool.true_and, Bool.and_true, Bool.and_self, Bool.false_and, ax_rw, if_neg]
    exact r6
  · intro j h0 h1
    simp (disch := first | assumption | omega) only [Int.reduceEq, Int.reduceNe, Int.reduceLT, Int.reduceLE, Int.reduceAdd, Int.reduceSub, Int.reduceMul, Int.reduceNeg, reduceIte, ite_true, ite_false, true_and, and_true, false_and, and_false, true_or, or_true, false_or, or_false, not_true_eq_false, not_false_eq_true, and_self, or_self, eq_self, ite_self, decide_true, decide_false, Bool.true_and, Bool.and_true, Bool.and_self, Bool.false_and, ax_rw, if_pos, if_neg, hu, r7]
  · simp (disch := first | assumption | omega) only [Int.reduceEq, Int.reduceNe, Int.reduceLT, Int.reduceLE, Int.reduceAdd, Int.reduceSub, Int.reduceMul, Int.reduceNeg, reduceIte, ite_true, ite_false, true_and, and_true, false_and, and_false, true_or, or_true, false_or, or_false, not_true_eq_false, not_false_eq_true, and_self, or_self, eq_self, ite_self, decide_true, decide_false, Bool.true_and, Bool.and_true, Bool.and_self, Bool.false_and, ax_rw, if_pos, if_neg, hu, r8]
  · simp (disch := first | assumption | omega) only [Int.reduceEq, Int.reduceNe, Int.reduceLT, Int.reduceLE, Int.reduceAdd, Int.reduceSub, Int.reduceMul, Int.reduceNeg, reduceIte, ite_true, ite_false, true_and, and_true, false_and, and_false, true_or, or_true, false_or, or_false, not_true_eq_false, not_false_eq_true, and_self, or_self, eq_self, ite_self, decide_true, decide_false, Bool.true_and, Bool.and_true, Bool.and_self, Bool.false_and, ax_rw, if_pos, if_neg, hu, r9]
  · intro c i h1 _ _
    simp (disch := first | assumption | omega) only [Int.reduceEq, Int.reduceNe, Int.reduceLT, Int.reduceLE, Int.reduceAdd, Int.reduceSub, Int.reduceMul, Int.reduceNeg, reduceIte, ite_true, ite_false, true_and, and_true, false_and, and_false, true_or, or_true, false_or, or_false, not_true_eq_false, not_false_eq_true, and_self, or_self, eq_self, ite_self, decide_true, decide_false, Bool.true_and, Bool.and_true, Bool.and_self, Bool.false_and, ax_rw, if_pos, if_neg]
theorem ax_orbB : ∀ x : Fin 64, ∀ m j : Fin 6, am_and (am_shr (am_or (x.val : Int) (am_shl 1 (m.val : Int))) (j.val : Int)) 1 = (if j.val = m.val then 1 else am_and (am_shr (x.val : Int) (j.val : Int)) 1) ∧ 0 ≤ am_or (x.val : Int) (am_shl 1 (m.val : Int)) ∧ am_or (x.val : Int) (am_shl 1 (m.val : Int)) < 64 := by decide +kernel
theorem ax_orb {x m j : Int} (x0 : 0 ≤ x) (x1 : x < 64) (m0 : 0 ≤ m) (m1 : m < 6) (j0 : 0 ≤ j) (j1 : j < 6) : am_and (am_shr (am_or x (am_shl 1 m)) j) 1 = (if j = m then 1 else am_and (am_shr x j) 1) ∧ 0 ≤ am_or x (am_shl 1 m) ∧ am_or x (am_shl 1 m) < 64 := by
  have h := ax_orbB ⟨x.toNat, by omega⟩ ⟨m.toNat, by omega⟩ ⟨j.toNat, by omega⟩
  simp only [Int.toNat_of_nonneg x0, Int.toNat_of_nonneg m0, Int.toNat_of_nonneg j0] at h
  obtain ⟨h1, h2, h3⟩ := h
  refine ⟨?_, h2, h3⟩
  rw [h1]
  by_cases e : j = m
  · rw [if_pos e, if_pos (by omega)]
  · rw [if_neg e, if_neg (by omega)]
theorem c_27 (hK : ax_K M) (hh : h = 8 ∨ h = 425) (C : CH M h n H) (m0 : 0 ≤ m) (m1 : m < 6) : ax_ok (am_Call d 27 [(2, h), (0, m)] M) (fun _ M' => CH M' h n (hu H (156 + m) 1) ∧ HF M M' h) := by
  obtain ⟨r1, r2, r3, r4, r5, r6, r7, r8, r9⟩ := C
  have key : am_Call d 27 [(2, h), (0, m)] M = some (0, am_wr M h 5 (am_or (am_rd M h 5) (am_shl 1 m))) := by
    rw [aq_27]
    rcases hh with rfl | rfl
    all_goals
      simp (disch := first | assumption | omega) only [ax_gt, ax_gi, am_let, Option.bind_some, ax_gbl, ax_gb2, ax_gd, Int.reduceEq, Int.reduceNe, Int.reduceLT, Int.reduceLE, Int.reduceAdd, Int.reduceSub, Int.reduceMul, Int.reduceNeg, reduceIte, ite_true, ite_false, true_and, and_true, false_and, and_false, true_or, or_true, false_or, or_false, not_true_eq_false, not_false_eq_true, and_self, or_self, eq_self, ite_self, decide_true, decide_false, Bool.true_and, Bool.and_true, Bool.and_self, Bool.false_and, ax_rw, if_pos, if_neg, ax_o_8, kr_8_0, kr_8_1, kr_8_2, kr_8_3, kr_8_4, ax_a_9, ax_a_10, ax_a_11, ax_a_12, ax_a_13, ax_o_425, kr_425_0, kr_425_1, kr_425_2, kr_425_3, kr_425_4, ax_a_426, ax_a_427, ax_a_428, ax_a_429, ax_a_430]
  rw [key]
  have o1 := ax_orb r6.1 r6.2 m0 m1 (j := 0) (by omega) (by omega)
  refine ax_ok_some ⟨⟨?_, ?_, ?_, ?_, ?_, ?_, ?_, ?_, ?_⟩, ?_⟩
  · intro j h0 h1
    simp (disch := first | assumption | omega) only [Int.reduceEq, Int.reduceNe, Int.reduceLT, Int.reduceLE, Int.reduceAdd, Int.reduceSub, Int.reduceMul, Int.reduceNeg, reduceIte, ite_true, ite_false, true_and, and_true, false_and, and_false, true_or, or_true, false_or, or_false, not_true_eq_false, not_false_eq_true, and_self, or_self, eq_self, ite_self, decide_true, decide_false, Bool.true_and, Bool.and_true, Bool.and_self, Bool.false_and, ax_rw, if_pos, if_neg, hu, r1]
  · intro j h0 h1
    simp (disch := first | assumption | omega) only [Int.reduceEq, Int.reduceNe, Int.reduceLT, Int.reduceLE, Int.reduceAdd, Int.reduceSub, Int.reduceMul, Int.reduceNeg, reduceIte, ite_true, ite_false, true_and, and_true, false_and, and_false, true_or, or_true, false_or, or_false, not_true_eq_false, not_false_eq_true, and_self, or_self, eq_self, ite_self, decide_true, decide_false, Bool.true_and, Bool.and_true, Bool.and_self, Bool.false_and, ax_rw, if_pos, if_neg, hu, r2]
  · intro j h0 h1
    simp (disch := first | assumption | omega) only [Int.reduceEq, Int.reduceNe, Int.reduceLT, Int.reduceLE, Int.reduceAdd, Int.reduceSub, Int.reduceMul, Int.reduceNeg, reduceIte, ite_true, ite_false, true_and, and_true, false_and, and_false, true_or, or_true, false_or, or_false, not_true_eq_false, not_false_eq_true, and_self, or_self, eq_self, ite_self, decide_true, decide_false, Bool.true_and, Bool.and_true, Bool.and_self, Bool.false_and, ax_rw, if_pos, if_neg, hu, r3]
  · intro j h0 h1
    simp (disch := first | assumption | omega) only [Int.reduceEq, Int.reduceNe, Int.reduceLT, Int.reduceLE, Int.reduceAdd, Int.reduceSub, Int.reduceMul, Int.reduceNeg, reduceIte, ite_true, ite_false, true_and, and_true, false_and, and_false, true_or, or_true, false_or, or_false, not_true_eq_false, not_false_eq_true, and_self, or_self, eq_self, ite_self, decide_true, decide_false, Bool.true_and, Bool.and_true, Bool.and_self, Bool.false_and, ax_rw, if_pos, if_neg, hu, r4]
  · intro j h0 h1
    simp (disch := first | assumption | omega) only [Int.reduceEq, Int.reduceNe, Int.reduceLT, Int.reduceLE, Int.reduceAdd, Int.reduceSub, Int.reduceMul, Int.reduceNeg, reduceIte, ite_true, ite_false, true_and, and_true, false_and, and_false, true_or, or_true, false_or, or_false, not_true_eq_false, not_false_eq_true, and_self, or_self, eq_self, ite_self, decide_true, decide_false, Bool.true_and, Bool.and_true, Bool.and_self, Bool.false_and, ax_rw, if_neg, hu, r5]
  · simp (disch := first | assumption | omega) only [Int.reduceEq, Int.reduceNe, Int.reduceLT, Int.reduceLE, Int.reduceAdd, Int.reduceSub, Int.reduceMul, Int.reduceNeg, reduceIte, ite_true, ite_false, true_and, and_true, false_and, and_false, true_or, or_true, false_or, or_false, not_true_eq_false, not_false_eq_true, and_self, or_self, eq_self, ite_self, decide_true, decide_false, Bool.true_and, Bool.and_true, Bool.and_self, Bool.false_and, ax_rw, if_pos]
    exact o1.2
  · intro j h0 h1
    have o := ax_orb r6.1 r6.2 m0 m1 h0 h1
    by_cases hj : j = m
    · simp (disch := first | assumption | omega) only [Int.reduceEq, Int.reduceNe, Int.reduceLT, Int.reduceLE, Int.reduceAdd, Int.reduceSub, Int.reduceMul, Int.reduceNeg, reduceIte, ite_true, ite_false, true_and, and_true, false_and, and_false, true_or, or_true, false_or, or_false, not_true_eq_false, not_false_eq_true, and_self, or_self, eq_self, ite_self, decide_true, decide_false, Bool.true_and, Bool.and_true, Bool.and_self, Bool.false_and, ax_rw, if_pos, if_neg, hu, o.1]
    · simp (disch := first | assumption | omega) only [Int.reduceEq, Int.reduceNe, Int.reduceLT, Int.reduceLE, Int.reduceAdd, Int.reduceSub, Int.reduceMul, Int.reduceNeg, reduceIte, ite_true, ite_false, true_and, and_true, false_and, and_false, true_or, or_true, false_or, or_false, not_true_eq_false, not_false_eq_true, and_self, or_self, eq_self, ite_self, decide_true, decide_false, Bool.true_and, Bool.and_true, Bool.and_self, Bool.false_and, ax_rw, if_pos, if_neg, hu, o.1, r7]
  · simp (disch := first | assumption | omega) only [Int.reduceEq, Int.reduceNe, Int.reduceLT, Int.reduceLE, Int.reduceAdd, Int.reduceSub, Int.reduceMul, Int.reduceNeg, reduceIte, ite_true, ite_false, true_and, and_true, false_and, and_false, true_or, or_true, false_or, or_false, not_true_eq_false, not_false_eq_true, and_self, or_self, eq_self, ite_self, decide_true, decide_false, Bool.true_and, Bool.and_true, Bool.and_self, Bool.false_and, ax_rw, if_pos, if_neg, hu, r8]
  · simp (disch := first | assumption | omega) only [Int.reduceEq, Int.reduceNe, Int.reduceLT, Int.reduceLE, Int.reduceAdd, Int.reduceSub, Int.reduceMul, Int.reduceNeg, reduceIte, ite_true, ite_false, true_and, and_true, false_and, and_false, true_or, or_true, false_or, or_false, not_true_eq_false, not_false_eq_true, and_self, or_self, eq_self, ite_self, decide_true, decide_false, Bool.true_and, Bool.and_true, Bool.and_self, Bool.false_and, ax_rw, if_pos, if_neg, hu, r9]
  · intro c i h1 _ _
    simp (disch := first | assumption | omega) only [Int.reduceEq, Int.reduceNe, Int.reduceLT, Int.reduceLE, Int.reduceAdd, Int.reduceSub, Int.reduceMul, Int.reduceNeg, reduceIte, ite_true, ite_false, true_and, and_true, false_and, and_false, true_or, or_true, false_or, or_false, not_true_eq_false, not_false_eq_true, and_self, or_self, eq_self, ite_self, decide_true, decide_false, Bool.true_and, Bool.and_true, Bool.and_self, Bool.false_and, ax_rw, if_pos, if_neg]
end
