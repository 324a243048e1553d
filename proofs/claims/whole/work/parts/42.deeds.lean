/-! DEEDS on the developers' side -/
/-- a loop that counts up, with a memory: what is behind it is asked for -/
theorem ax_loopQ {σ : Type} {X : Int → σ → am_M → Option (Int × am_M)} {n : Int} {Q : Int → am_M → Prop} (I : Int → σ → am_M → Prop) (hs : ∀ k s m, I k s m → k < n → (∀ s' m', I (k + 1) s' m' → ax_ok (X (k + 1) s' m') Q) → ax_ok (X k s m) Q) (he : ∀ s m, I n s m → ax_ok (X n s m) Q) : ∀ (j : Nat) (k : Int) (s : σ) (m : am_M), k + j = n → I k s m → ax_ok (X k s m) Q := by
  intro j
  induction j with
  | zero =>
    intro k s m h hi
    have : k = n := by omega
    subst this
    exact he s m hi
  | succ j ih =>
    intro k s m h hi
    exact hs k s m hi (by omega) fun s' m' h' => ih (k + 1) s' m' (by omega) h'
section
variable {M : am_M} {d : Nat} {h n T al m t k : Int} {P W H : Int → Int} {cd : Int → Option (List (Int × Int))}
theorem HF_CE {M' : am_M} (hh : h = 8 ∨ h = 425) (E : CE M T n al P W cd) (F : HF M M' h) : CE M' T n al P W cd := CE_same E fun c i hc => F c i (by omega) (by omega) (by omega)
theorem JF_HF {M' : am_M} (f : ∀ c i, c ≠ 40 → c ≠ 41 → am_rd M' c i = am_rd M c i) : HF M M' h := fun c i _ h1 h2 => f c i h1 h2
theorem JF_CH {M' : am_M} (hh : h = 8 ∨ h = 425) (C : CH M h n H) (f : ∀ c i, c ≠ 40 → c ≠ 41 → am_rd M' c i = am_rd M c i) : CH M' h n H := CH_same C fun c i h1 h2 => f c i (by omega) (by omega)
theorem ob3 (hh : h = 8 ∨ h = 425) : am_ob h 3 = true := by rcases hh with rfl | rfl <;> rfl
theorem c_208 (hK : ax_K M) (hh : h = 8 ∨ h = 425) (C : CH M h n H) (E : CE M T n al P W cd) (S : ES T n al P W cd) (B : HB T H) (m0 : 0 ≤ m) (m2 : m < n) (t0 : 0 ≤ t) (t1 : t < T) : ax_ok (am_Call d 208 [(2, 42), (2, h), (0, m), (0, t)] M) (fun _ M' => CH M' h n (hF P W cd m t H) ∧ HF M M' h) := by
  have hT := S.1
  have m1 : m < 6 := by have := S.2.1; omega
  have t2 : t < 8 := by omega
  have bb := B.1 (8 * m + t) (by omega) (by omega)
  have NN := lx_nmN (k := 0) S B m0 m1 t0 t2 (by omega) (by omega)
  have h8 : lx_nm P W H m t 0 8 = 0 := by unfold lx_nm; simp only [Int.reduceEq, Int.reduceNe, Int.reduceLT, Int.reduceLE, Int.reduceAdd, Int.reduceSub, Int.reduceMul, Int.reduceNeg, reduceIte, ite_true, ite_false, true_and, and_true, false_and, and_false, true_or, or_true, false_or, or_false, not_true_eq_false, not_false_eq_true, and_self, or_self, eq_self, ite_self, decide_true, decide_false, Bool.true_and, Bool.and_true, Bool.and_self, Bool.false_and, Int.sub_zero, Int.add_zero, Int.zero_add]
  have v1 := lx_valr (k := 1) S NN (by omega) (by omega) (by omega)
  have v2 := lx_valr (k := 2) S NN (by omega) (by omega) (by omega)
  have hob := ob3 hh
  have e0 := fun d => c_117 (d := d) hK hh C m0 m1 t0 t2
  rw [aq_208]
  unfold hF
  by_cases hs : am_and (am_shr (H (144 + m)) t) 1 = 1
  · rw [if_pos hs]
    obtain ⟨r2, M2, e2, rfl, f2⟩ := c_174 (d := d) (l := 2) (k := 0) hK hh C E S B m0 m2 t0 t2 (by omega) (by omega) (by omega) (by omega)
    have hK2 := ax_Kp e2 hK rfl
    have C2 := JF_CH hh C f2
    have e3 := c_114 (d := d) hK2 hh C2 m0 m1 t0 t2
    obtain ⟨r4, M4, e4, C4, F4⟩ := c_119 (d := d) (v := H (8 * m + t)) hK2 hh C2 m0 m1 t0 t2
    rw [hR_same rfl (by omega) (by omega) (by omega)] at C4
    have hK4 := ax_Kp e4 hK2 rfl
    have e5 := c_115 (d := d) hK4 hh C4 m0 m1 t0 t2
    obtain ⟨r6, M6, e6, C6, F6⟩ := c_120 (d := d) (v := H (48 + (8 * m + t)) - lx_val 2 (cd 2) (lx_nm P W H m t 0)) hK4 hh C4 m0 m1 t0 t2
    simp (disch := first | assumption | omega) only [ax_gt, ax_gi, Option.bind_some, ax_gbl, ax_gb2, ax_gd, Int.reduceEq, Int.reduceNe, Int.reduceLT, Int.reduceLE, Int.reduceAdd, Int.reduceSub, Int.reduceMul, Int.reduceNeg, reduceIte, ite_true, ite_false, true_and, and_true, false_and, and_false, true_or, or_true, false_or, or_false, not_true_eq_false, not_false_eq_true, and_self, or_self, eq_self, ite_self, decide_true, decide_false, Bool.true_and, Bool.and_true, Bool.and_self, Bool.false_and, Int.sub_zero, Int.add_zero, Int.zero_add, ax_w32, hob, ax_o_39, kr_39_0, kr_39_1, kr_39_2, kr_39_3, ax_a_40, ax_a_41, ax_o_42, kr_42_0, kr_42_1, e0, ax_b0, hs, e2, e3, e4, e5, e6]
    exact ax_ok_some ⟨C6, HF_trans (JF_HF f2) (HF_trans F4 F6)⟩
  · rw [if_neg hs]
    obtain ⟨r1, M1, e1, rfl, f1⟩ := c_174 (d := d) (l := 1) (k := 0) hK hh C E S B m0 m2 t0 t2 (by omega) (by omega) (by omega) (by omega)
    have hK1 := ax_Kp e1 hK rfl
    have C1 := JF_CH hh C f1
    have E1 := HF_CE hh E (JF_HF f1)
    obtain ⟨r2, M2, e2, rfl, f2⟩ := c_174 (d := d) (l := 2) (k := 0) hK1 hh C1 E1 S B m0 m2 t0 t2 (by omega) (by omega) (by omega) (by omega)
    have hK2 := ax_Kp e2 hK1 rfl
    have C2 := JF_CH hh C1 f2
    have e3 := c_114 (d := d) hK2 hh C2 m0 m1 t0 t2
    obtain ⟨r4, M4, e4, C4, F4⟩ := c_119 (d := d) (v := H (8 * m + t) - lx_val 1 (cd 1) (lx_nm P W H m t 0)) hK2 hh C2 m0 m1 t0 t2
    have hK4 := ax_Kp e4 hK2 rfl
    have e5 := c_115 (d := d) hK4 hh C4 m0 m1 t0 t2
    have e5w : hR H m t (H (8 * m + t) - lx_val 1 (cd 1) (lx_nm P W H m t 0)) (48 + (8 * m + t)) = H (48 + (8 * m + t)) := by
      simp (disch := omega) only [hR, hu, if_neg]
    rw [e5w] at e5
    obtain ⟨r6, M6, e6, C6, F6⟩ := c_120 (d := d) (v := H (48 + (8 * m + t)) - lx_val 2 (cd 2) (lx_nm P W H m t 0)) hK4 hh C4 m0 m1 t0 t2
    simp (disch := first | assumption | omega) only [ax_gt, ax_gi, Option.bind_some, ax_gbl, ax_gb2, ax_gd, Int.reduceEq, Int.reduceNe, Int.reduceLT, Int.reduceLE, Int.reduceAdd, Int.reduceSub, Int.reduceMul, Int.reduceNeg, reduceIte, ite_true, ite_false, true_and, and_true, false_and, and_false, true_or, or_true, false_or, or_false, not_true_eq_false, not_false_eq_true, and_self, or_self, eq_self, ite_self, decide_true, decide_false, Bool.true_and, Bool.and_true, Bool.and_self, Bool.false_and, Int.sub_zero, Int.add_zero, Int.zero_add, ax_w32, hob, ax_o_39, kr_39_0, kr_39_1, kr_39_2, kr_39_3, ax_a_40, ax_a_41, ax_o_42, kr_42_0, kr_42_1, e0, ax_b0, hs, e1, e2, e3, e4, e5, e6]
    exact ax_ok_some ⟨C6, HF_trans (JF_HF f1) (HF_trans (JF_HF f2) (HF_trans F4 F6))⟩
theorem c_207 (hK : ax_K M) (hh : h = 8 ∨ h = 425) (C : CH M h n H) (E : CE M T n al P W cd) (S : ES T n al P W cd) (B : HB T H) (m0 : 0 ≤ m) (m2 : m < n) (t0 : 0 ≤ t) (t1 : t < T) (k0 : 1 ≤ k) (k1 : k ≤ 99) : ax_ok (am_Call d 207 [(2, 42), (2, h), (0, m), (0, t), (0, k)] M) (fun _ M' => CH M' h n (hM P W cd m t k H) ∧ HF M M' h) := by
  have hT := S.1
  have m1 : m < 6 := by have := S.2.1; omega
  have t2 : t < 8 := by omega
  have bb := B.1 (8 * m + t) (by omega) (by omega)
  have hob := ob3 hh
  have e0 := c_115 (d := d) hK hh C m0 m1 t0 t2
  obtain ⟨r1, M1, e1, C1, F1⟩ := c_120 (d := d) (v := H (48 + (8 * m + t)) + k) hK hh C m0 m1 t0 t2
  have B1 := HB_W (v := H (48 + (8 * m + t)) + k) B m0 m1 t0 t2
  have w1 : hW H m t (H (48 + (8 * m + t)) + k) (144 + m) = H (144 + m) := by simp (disch := omega) only [hW, hu, if_neg]
  have w2 : hW H m t (H (48 + (8 * m + t)) + k) (8 * m + t) = H (8 * m + t) := by simp (disch := omega) only [hW, hu, if_neg]
  have hK1 := ax_Kp e1 hK rfl
  have E1 := HF_CE hh E F1
  have e2 := c_117 (d := d) hK1 hh C1 m0 m1 t0 t2
  rw [w1] at e2
  rw [aq_207]
  unfold hM
  by_cases hs : am_and (am_shr (H (144 + m)) t) 1 = 1
  · rw [if_pos hs]
    simp (disch := first | assumption | omega) only [ax_gt, ax_gi, Option.bind_some, ax_gbl, ax_gb2, ax_gd, Int.reduceEq, Int.reduceNe, Int.reduceLT, Int.reduceLE, Int.reduceAdd, Int.reduceSub, Int.reduceMul, Int.reduceNeg, reduceIte, ite_true, ite_false, true_and, and_true, false_and, and_false, true_or, or_true, false_or, or_false, not_true_eq_false, not_false_eq_true, and_self, or_self, eq_self, ite_self, decide_true, decide_false, Bool.true_and, Bool.and_true, Bool.and_self, Bool.false_and, Int.sub_zero, Int.add_zero, Int.zero_add, ax_w32, hob, ax_o_39, kr_39_0, kr_39_1, kr_39_2, kr_39_3, ax_a_40, ax_a_41, ax_o_42, kr_42_0, kr_42_1, e0, ax_b0, hs, e1, e2]
    exact ax_ok_some ⟨C1, F1⟩
  · rw [if_neg hs]
    have NN := lx_nmN (k := k) S B1 m0 m1 t0 t2 (by omega) (by omega)
    have h8 : lx_nm P W (hW H m t (H (48 + (8 * m + t)) + k)) m t k 8 = k := by unfold lx_nm; simp only [Int.reduceEq, Int.reduceNe, Int.reduceLT, Int.reduceLE, Int.reduceAdd, Int.reduceSub, Int.reduceMul, Int.reduceNeg, reduceIte, ite_true, ite_false, true_and, and_true, false_and, and_false, true_or, or_true, false_or, or_false, not_true_eq_false, not_false_eq_true, and_self, or_self, eq_self, ite_self, decide_true, decide_false, Bool.true_and, Bool.and_true, Bool.and_self, Bool.false_and, Int.sub_zero, Int.add_zero, Int.zero_add]
    have v3 := lx_valr (k := 3) S NN (by omega) (by omega) (by omega)
    obtain ⟨r3, M3, e3, rfl, f3⟩ := c_174 (d := d) (l := 3) (k := k) hK1 hh C1 E1 S B1 m0 m2 t0 t2 (by omega) (by omega) (by omega) (by omega)
    have hK3 := ax_Kp e3 hK1 rfl
    have C3 := JF_CH hh C1 f3
    have e4 := c_114 (d := d) hK3 hh C3 m0 m1 t0 t2
    rw [w2] at e4
    obtain ⟨r5, M5, e5, C5, F5⟩ := c_119 (d := d) (v := H (8 * m + t) - lx_val 3 (cd 3) (lx_nm P W (hW H m t (H (48 + (8 * m + t)) + k)) m t k)) hK3 hh C3 m0 m1 t0 t2
    simp (disch := first | assumption | omega) only [ax_gt, ax_gi, Option.bind_some, ax_gbl, ax_gb2, ax_gd, Int.reduceEq, Int.reduceNe, Int.reduceLT, Int.reduceLE, Int.reduceAdd, Int.reduceSub, Int.reduceMul, Int.reduceNeg, reduceIte, ite_true, ite_false, true_and, and_true, false_and, and_false, true_or, or_true, false_or, or_false, not_true_eq_false, not_false_eq_true, and_self, or_self, eq_self, ite_self, decide_true, decide_false, Bool.true_and, Bool.and_true, Bool.and_self, Bool.false_and, Int.sub_zero, Int.add_zero, Int.zero_add, ax_w32, hob, ax_o_39, kr_39_0, kr_39_1, kr_39_2, kr_39_3, ax_a_40, ax_a_41, ax_o_42, kr_42_0, kr_42_1, e0, ax_b0, hs, e1, e2, e3, e4, e5]
    exact ax_ok_some ⟨C5, HF_trans F1 (HF_trans (JF_HF f3) F5)⟩
theorem c_235 (hK : ax_K M) (hh : h = 8 ∨ h = 425) (C : CH M h n H) (E : CE M T n al P W cd) (S : ES T n al P W cd) (B : HB T H) (m0 : 0 ≤ m) (m2 : m < n) : ax_ok (am_Call d 235 [(2, 42), (2, h), (0, m)] M) (fun r M' => r = ax_cn (hHad T P W cd H m) ∧ CH M' h n (hT T al P W cd m H) ∧ HF M M' h) := by
  have hTb := S.1
  have m1 : m < 6 := by have := S.2.1; omega
  have hob := ob3 hh
  obtain ⟨r1, M1, e1, rfl, f1⟩ := c_209 (d := d) hK hh C E S B m0 m2
  have hr := hHad_r (T := T) (P := P) (W := W) (cd := cd) (H := H) (m := m) hTb.2
  have hK1 := ax_Kp e1 hK rfl
  have C1 := JF_CH hh C f1
  have e2 := c_99 (M := M1) (d := d) hr.1 hr.2
  have hal : am_rd M1 2 10 = al := (f1 _ _ (by omega) (by omega)).trans E.1.2.2
  rw [aq_235]
  unfold hT
  by_cases hc : ax_cn (hHad T P W cd H m) ≤ al
  · rw [if_pos hc]
    obtain ⟨r3, M3, e3, C3, F3⟩ := c_27 (d := d) hK1 hh C1 m0 m1
    simp (disch := first | assumption | omega) only [ax_gt, ax_gi, Option.bind_some, ax_gbl, ax_gb2, ax_gd, Int.reduceEq, Int.reduceNe, Int.reduceLT, Int.reduceLE, Int.reduceAdd, Int.reduceSub, Int.reduceMul, Int.reduceNeg, reduceIte, ite_true, ite_false, true_and, and_true, false_and, and_false, true_or, or_true, false_or, or_false, not_true_eq_false, not_false_eq_true, and_self, or_self, eq_self, ite_self, decide_true, decide_false, Bool.true_and, Bool.and_true, Bool.and_self, Bool.false_and, Int.sub_zero, Int.add_zero, Int.zero_add, ax_rw, if_pos, if_neg, hob, ax_o_2, kr_2_0, kr_2_1, kr_2_2, kr_2_3, kr_2_4, ax_a_3, ax_a_4, ax_a_5, ax_a_6, ax_a_7, ax_o_39, kr_39_0, kr_39_1, kr_39_2, kr_39_3, ax_a_40, ax_a_41, ax_o_42, kr_42_0, kr_42_1, e1, e2, hal, e3]
    exact ax_ok_some ⟨rfl, C3, HF_trans (JF_HF f1) F3⟩
  · rw [if_neg hc]
    simp (disch := first | assumption | omega) only [ax_gt, ax_gi, Option.bind_some, ax_gbl, ax_gb2, ax_gd, Int.reduceEq, Int.reduceNe, Int.reduceLT, Int.reduceLE, Int.reduceAdd, Int.reduceSub, Int.reduceMul, Int.reduceNeg, reduceIte, ite_true, ite_false, true_and, and_true, false_and, and_false, true_or, or_true, false_or, or_false, not_true_eq_false, not_false_eq_true, and_self, or_self, eq_self, ite_self, decide_true, decide_false, Bool.true_and, Bool.and_true, Bool.and_self, Bool.false_and, Int.sub_zero, Int.add_zero, Int.zero_add, ax_rw, if_pos, if_neg, hob, ax_o_2, kr_2_0, kr_2_1, kr_2_2, kr_2_3, kr_2_4, ax_a_3, ax_a_4, ax_a_5, ax_a_6, ax_a_7, ax_o_39, kr_39_0, kr_39_1, kr_39_2, kr_39_3, ax_a_40, ax_a_41, ax_o_42, kr_42_0, kr_42_1, e1, e2, hal]
    exact ax_ok_some ⟨rfl, C1, JF_HF f1⟩
theorem c_day (hK : ax_K M) (hh : h = 8 ∨ h = 425) (C : CH M h n H) {v : Int} : ax_K (am_wr M h 6 v) ∧ CH (am_wr M h 6 v) h n (hu H 162 v) ∧ HF M (am_wr M h 6 v) h := by
  obtain ⟨r1, r2, r3, r4, r5, r6, r7, r8, r9⟩ := C
  refine ⟨ax_Kw hK (by rcases hh with rfl | rfl <;> rfl), ⟨?_, ?_, ?_, ?_, ?_, ?_, ?_, ?_, ?_⟩, ?_⟩
  · intro j h0 h1
    simp (disch := first | assumption | omega) only [Int.reduceEq, Int.reduceNe, Int.reduceLT, Int.reduceLE, Int.reduceAdd, Int.reduceSub, Int.reduceMul, Int.reduceNeg, reduceIte, ite_true, ite_false, true_and, and_true, false_and, and_false, true_or, or_true, false_or, or_false, not_true_eq_false, not_false_eq_true, and_self, or_self, eq_self, ite_self, decide_true, decide_false, Bool.true_and, Bool.and_true, Bool.and_self, Bool.false_and, Int.sub_zero, Int.add_zero, Int.zero_add, ax_rw, if_pos, if_neg, hu, r1]
  · intro j h0 h1
    simp (disch := first | assumption | omega) only [Int.reduceEq, Int.reduceNe, Int.reduceLT, Int.reduceLE, Int.reduceAdd, Int.reduceSub, Int.reduceMul, Int.reduceNeg, reduceIte, ite_true, ite_false, true_and, and_true, false_and, and_false, true_or, or_true, false_or, or_false, not_true_eq_false, not_false_eq_true, and_self, or_self, eq_self, ite_self, decide_true, decide_false, Bool.true_and, Bool.and_true, Bool.and_self, Bool.false_and, Int.sub_zero, Int.add_zero, Int.zero_add, ax_rw, if_pos, if_neg, hu, r2]
  · intro j h0 h1
    simp (disch := first | assumption | omega) only [Int.reduceEq, Int.reduceNe, Int.reduceLT, Int.reduceLE, Int.reduceAdd, Int.reduceSub, Int.reduceMul, Int.reduceNeg, reduceIte, ite_true, ite_false, true_and, and_true, false_and, and_false, true_or, or_true, false_or, or_false, not_true_eq_false, not_false_eq_true, and_self, or_self, eq_self, ite_self, decide_true, decide_false, Bool.true_and, Bool.and_true, Bool.and_self, Bool.false_and, Int.sub_zero, Int.add_zero, Int.zero_add, ax_rw, if_pos, if_neg, hu, r3]
  · intro j h0 h1
    simp (disch := first | assumption | omega) only [Int.reduceEq, Int.reduceNe, Int.reduceLT, Int.reduceLE, Int.reduceAdd, Int.reduceSub, Int.reduceMul, Int.reduceNeg, reduceIte, ite_true, ite_false, true_and, and_true, false_and, and_false, true_or, or_true, false_or, or_false, not_true_eq_false, not_false_eq_true, and_self, or_self, eq_self, ite_self, decide_true, decide_false, Bool.true_and, Bool.and_true, Bool.and_self, Bool.false_and, Int.sub_zero, Int.add_zero, Int.zero_add, ax_rw, if_pos, if_neg, hu, r4]
  · intro j h0 h1
    simp (disch := first | assumption | omega) only [Int.reduceEq, Int.reduceNe, Int.reduceLT, Int.reduceLE, Int.reduceAdd, Int.reduceSub, Int.reduceMul, Int.reduceNeg, reduceIte, ite_true, ite_false, true_and, and_true, false_and, and_false, true_or, or_true, false_or, or_false, not_true_eq_false, not_false_eq_true, and_self, or_self, eq_self, ite_self, decide_true, decide_false, Bool.true_and, Bool.and_true, Bool.and_self, Bool.false_and, Int.sub_zero, Int.add_zero, Int.zero_add, ax_rw, if_neg, hu, r5]
  · simp (disch := first | assumption | omega) only [Int.reduceEq, Int.reduceNe, Int.reduceLT, Int.reduceLE, Int.reduceAdd, Int.reduceSub, Int.reduceMul, Int.reduceNeg, reduceIte, ite_true, ite_false, true_and, and_true, false_and, and_false, true_or, or_true, false_or, or_false, not_true_eq_false, not_false_eq_true, and_self, or_self, eq_self, ite_self, decide_true, decide_false, Bool.true_and, Bool.and_true, Bool.and_self, Bool.false_and, Int.sub_zero, Int.add_zero, Int.zero_add, ax_rw, if_neg]
    exact r6
  · intro j h0 h1
    simp (disch := first | assumption | omega) only [Int.reduceEq, Int.reduceNe, Int.reduceLT, Int.reduceLE, Int.reduceAdd, Int.reduceSub, Int.reduceMul, Int.reduceNeg, reduceIte, ite_true, ite_false, true_and, and_true, false_and, and_false, true_or, or_true, false_or, or_false, not_true_eq_false, not_false_eq_true, and_self, or_self, eq_self, ite_self, decide_true, decide_false, Bool.true_and, Bool.and_true, Bool.and_self, Bool.false_and, Int.sub_zero, Int.add_zero, Int.zero_add, ax_rw, if_pos, if_neg, hu, r7]
  · simp (disch := first | assumption | omega) only [Int.reduceEq, Int.reduceNe, Int.reduceLT, Int.reduceLE, Int.reduceAdd, Int.reduceSub, Int.reduceMul, Int.reduceNeg, reduceIte, ite_true, ite_false, true_and, and_true, false_and, and_false, true_or, or_true, false_or, or_false, not_true_eq_false, not_false_eq_true, and_self, or_self, eq_self, ite_self, decide_true, decide_false, Bool.true_and, Bool.and_true, Bool.and_self, Bool.false_and, Int.sub_zero, Int.add_zero, Int.zero_add, ax_rw, if_pos, if_neg, hu]
  · simp (disch := first | assumption | omega) only [Int.reduceEq, Int.reduceNe, Int.reduceLT, Int.reduceLE, Int.reduceAdd, Int.reduceSub, Int.reduceMul, Int.reduceNeg, reduceIte, ite_true, ite_false, true_and, and_true, false_and, and_false, true_or, or_true, false_or, or_false, not_true_eq_false, not_false_eq_true, and_self, or_self, eq_self, ite_self, decide_true, decide_false, Bool.true_and, Bool.and_true, Bool.and_self, Bool.false_and, Int.sub_zero, Int.add_zero, Int.zero_add, ax_rw, if_pos, if_neg, hu, r9]
  · intro c i h1 _ _
    simp (disch := first | assumption | omega) only [Int.reduceEq, Int.reduceNe, Int.reduceLT, Int.reduceLE, Int.reduceAdd, Int.reduceSub, Int.reduceMul, Int.reduceNeg, reduceIte, ite_true, ite_false, true_and, and_true, false_and, and_false, true_or, or_true, false_or, or_false, not_true_eq_false, not_false_eq_true, and_self, or_self, eq_self, ite_self, decide_true, decide_false, Bool.true_and, Bool.and_true, Bool.and_self, Bool.false_and, Int.sub_zero, Int.add_zero, Int.zero_add, ax_rw, if_pos, if_neg]
theorem c_xx (hK : ax_K M) (hh : h = 8 ∨ h = 425) (C : CH M h n H) {v : Int} : ax_K (am_wr M h 7 v) ∧ CH (am_wr M h 7 v) h n (hu H 163 v) ∧ HF M (am_wr M h 7 v) h := by
  obtain ⟨r1, r2, r3, r4, r5, r6, r7, r8, r9⟩ := C
  refine ⟨ax_Kw hK (by rcases hh with rfl | rfl <;> rfl), ⟨?_, ?_, ?_, ?_, ?_, ?_, ?_, ?_, ?_⟩, ?_⟩
  · intro j h0 h1
    simp (disch := first | assumption | omega) only [Int.reduceEq, Int.reduceNe, Int.reduceLT, Int.reduceLE, Int.reduceAdd, Int.reduceSub, Int.reduceMul, Int.reduceNeg, reduceIte, ite_true, ite_false, true_and, and_true, false_and, and_false, true_or, or_true, false_or, or_false, not_true_eq_false, not_false_eq_true, and_self, or_self, eq_self, ite_self, decide_true, decide_false, Bool.true_and, Bool.and_true, Bool.and_self, Bool.false_and, Int.sub_zero, Int.add_zero, Int.zero_add, ax_rw, if_pos, if_neg, hu, r1]
  · intro j h0 h1
    simp (disch := first | assumption | omega) only [Int.reduceEq, Int.reduceNe, Int.reduceLT, Int.reduceLE, Int.reduceAdd, Int.reduceSub, Int.reduceMul, Int.reduceNeg, reduceIte, ite_true, ite_false, true_and, and_true, false_and, and_false, true_or, or_true, false_or, or_false, not_true_eq_false, not_false_eq_true, and_self, or_self, eq_self, ite_self, decide_true, decide_false, Bool.true_and, Bool.and_true, Bool.and_self, Bool.false_and, Int.sub_zero, Int.add_zero, Int.zero_add, ax_rw, if_pos, if_neg, hu, r2]
  · intro j h0 h1
    simp (disch := first | assumption | omega) only [Int.reduceEq, Int.reduceNe, Int.reduceLT, Int.reduceLE, Int.reduceAdd, Int.reduceSub, Int.reduceMul, Int.reduceNeg, reduceIte, ite_true, ite_false, true_and, and_true, false_and, and_false, true_or, or_true, false_or, or_false, not_true_eq_false, not_false_eq_true, and_self, or_self, eq_self, ite_self, decide_true, decide_false, Bool.true_and, Bool.and_true, Bool.and_self, Bool.false_and, Int.sub_zero, Int.add_zero, Int.zero_add, ax_rw, if_pos, if_neg, hu, r3]
  · intro j h0 h1
    simp (disch := first | assumption | omega) only [Int.reduceEq, Int.reduceNe, Int.reduceLT, Int.reduceLE, Int.reduceAdd, Int.reduceSub, Int.reduceMul, Int.reduceNeg, reduceIte, ite_true, ite_false, true_and, and_true, false_and, and_false, true_or, or_true, false_or, or_false, not_true_eq_false, not_false_eq_true, and_self, or_self, eq_self, ite_self, decide_true, decide_false, Bool.true_and, Bool.and_true, Bool.and_self, Bool.false_and, Int.sub_zero, Int.add_zero, Int.zero_add, ax_rw, if_pos, if_neg, hu, r4]
  · intro j h0 h1
    simp (disch := first | assumption | omega) only [Int.reduceEq, Int.reduceNe, Int.reduceLT, Int.reduceLE, Int.reduceAdd, Int.reduceSub, Int.reduceMul, Int.reduceNeg, reduceIte, ite_true, ite_false, true_and, and_true, false_and, and_false, true_or, or_true, false_or, or_false, not_true_eq_false, not_false_eq_true, and_self, or_self, eq_self, ite_self, decide_true, decide_false, Bool.true_and, Bool.and_true, Bool.and_self, Bool.false_and, Int.sub_zero, Int.add_zero, Int.zero_add, ax_rw, if_neg, hu, r5]
  · simp (disch := first | assumption | omega) only [Int.reduceEq, Int.reduceNe, Int.reduceLT, Int.reduceLE, Int.reduceAdd, Int.reduceSub, Int.reduceMul, Int.reduceNeg, reduceIte, ite_true, ite_false, true_and, and_true, false_and, and_false, true_or, or_true, false_or, or_false, not_true_eq_false, not_false_eq_true, and_self, or_self, eq_self, ite_self, decide_true, decide_false, Bool.true_and, Bool.and_true, Bool.and_self, Bool.false_and, Int.sub_zero, Int.add_zero, Int.zero_add, ax_rw, if_neg]
    exact r6
  · intro j h0 h1
    simp (disch := first | assumption | omega) only [Int.reduceEq, Int.reduceNe, Int.reduceLT, Int.reduceLE, Int.reduceAdd, Int.reduceSub, Int.reduceMul, Int.reduceNeg, reduceIte, ite_true, ite_false, true_and, and_true, false_and, and_false, true_or, or_true, false_or, or_false, not_true_eq_false, not_false_eq_true, and_self, or_self, eq_self, ite_self, decide_true, decide_false, Bool.true_and, Bool.and_true, Bool.and_self, Bool.false_and, Int.sub_zero, Int.add_zero, Int.zero_add, ax_rw, if_pos, if_neg, hu, r7]
  · simp (disch := first | assumption | omega) only [Int.reduceEq, Int.reduceNe, Int.reduceLT, Int.reduceLE, Int.reduceAdd, Int.reduceSub, Int.reduceMul, Int.reduceNeg, reduceIte, ite_true, ite_false, true_and, and_true, false_and, and_false, true_or, or_true, false_or, or_false, not_true_eq_false, not_false_eq_true, and_self, or_self, eq_self, ite_self, decide_true, decide_false, Bool.true_and, Bool.and_true, Bool.and_self, Bool.false_and, Int.sub_zero, Int.add_zero, Int.zero_add, ax_rw, if_pos, if_neg, hu, r8]
  · simp (disch := first | assumption | omega) only [Int.reduceEq, Int.reduceNe, Int.reduceLT, Int.reduceLE, Int.reduceAdd, Int.reduceSub, Int.reduceMul, Int.reduceNeg, reduceIte, ite_true, ite_false, true_and, and_true, false_and, and_false, true_or, or_true, false_or, or_false, not_true_eq_false, not_false_eq_true, and_self, or_self, eq_self, ite_self, decide_true, decide_false, Bool.true_and, Bool.and_true, Bool.and_self, Bool.false_and, Int.sub_zero, Int.add_zero, Int.zero_add, ax_rw, if_pos, if_neg, hu]
  · intro c i h1 _ _
    simp (disch := first | assumption | omega) only [Int.reduceEq, Int.reduceNe, Int.reduceLT, Int.reduceLE, Int.reduceAdd, Int.reduceSub, Int.reduceMul, Int.reduceNeg, reduceIte, ite_true, ite_false, true_and, and_true, false_and, and_false, true_or, or_true, false_or, or_false, not_true_eq_false, not_false_eq_true, and_self, or_self, eq_self, ite_self, decide_true, decide_false, Bool.true_and, Bool.and_true, Bool.and_self, Bool.false_and, Int.sub_zero, Int.add_zero, Int.zero_add, ax_rw, if_pos, if_neg]
/-- one man's night -/
theorem c_256a (hK : ax_K M) (hh : h = 8 ∨ h = 425) (C : CH M h n H) (E : CE M T n al P W cd) (S : ES T n al P W cd) (B : HB T H) {a b : Int} (m0 : 0 ≤ m) (m2 : m < n) {Q : Int → am_M → Prop} (hQ : ∀ M', ax_K M' → CH M' h n (hNm T P W cd m H) → HF M M' h → ax_ok (am_Ex d 256 3 [(2, 42), (2, h), (0, a), (0, b), (0, m + 1), am_N] [] M') Q) : ax_ok (am_Ex d 256 9 [(2, 42), (2, h), (0, a), (0, b), (0, m), (0, 0)] [] M) Q := by
  have hTb := S.1
  have m1 : m < 6 := by have := S.2.1; omega
  have hob := ob3 hh
  unfold hNm at hQ
  by_cases hf : H (156 + m) = 0
  · rw [if_pos hf] at hQ
    refine ax_loopM (σ := Int → Int) (X := fun t _ m' => am_Ex d 256 9 [(2, 42), (2, h), (0, a), (0, b), (0, m), (0, t)] [] m') (n := T) (fun t H' m' => 0 ≤ t ∧ ax_K m' ∧ CH m' h n H' ∧ HF M m' h ∧ HB T H' ∧ H' (156 + m) = 0 ∧ ax_fo (fun t H => hF P W cd m t H) (T - t).toNat t H' = ax_fo (fun t H => hF P W cd m t H) (T - 0).toNat 0 H) ?_ ?_ (T - 0).toNat 0 H M (by omega) ⟨by omega, hK, C, HF_refl, B, hf, rfl⟩
    · intro t H' m' ⟨t0, hK', C', F', B', hf', hs⟩ t1
      have E' := HF_CE hh E F'
      have e0 := fun d => c_25 (d := d) hK' hh C' m0 m1
      obtain ⟨r1, M1, e1, C1, F1⟩ := c_208 (d := d) hK' hh C' E' S B' m0 m2 t0 t1
      refine ⟨hF P W cd m t H', M1, ?_, by omega, ax_Kp e1 hK' rfl, C1, HF_trans F' F1, HB_F S B' m0 m1 t0 t1, (hF_o m0 m1 t0 (by omega) (by omega)).trans hf', by rw [← hs, ax_fo_s t1]⟩
      show am_Ex d 256 9 _ _ _ = _
      rw [aq_256_9]
      simp (disch := first | assumption | omega) only [ax_gt, ax_gi, Option.bind_some, ax_gbl, ax_gb2, ax_gd, Int.reduceEq, Int.reduceNe, Int.reduceLT, Int.reduceLE, Int.reduceAdd, Int.reduceSub, Int.reduceMul, Int.reduceNeg, reduceIte, ite_true, ite_false, true_and, and_true, false_and, and_false, true_or, or_true, false_or, or_false, not_true_eq_false, not_false_eq_true, and_self, or_self, eq_self, ite_self, decide_true, decide_false, Bool.true_and, Bool.and_true, Bool.and_self, Bool.false_and, Int.sub_zero, Int.add_zero, Int.zero_add, ax_rw, if_pos, if_neg, ax_w32, ax_let, hob, ax_o_2, kr_2_0, kr_2_1, kr_2_2, kr_2_3, kr_2_4, ax_a_3, ax_a_4, ax_a_5, ax_a_6, ax_a_7, ax_o_42, kr_42_0, kr_42_1, E'.1.1, e0, ax_b0, hf', e1]
    · intro H' m' ⟨t0, hK', C', F', B', hf', hs⟩
      have E' := HF_CE hh E F'
      rw [ax_fo_e (by omega)] at hs
      show ax_ok (am_Ex d 256 9 _ _ _) _
      rw [aq_256_9]
      simp (disch := first | assumption | omega) only [ax_gt, ax_gi, Option.bind_some, ax_gbl, ax_gb2, ax_gd, Int.reduceEq, Int.reduceNe, Int.reduceLT, Int.reduceLE, Int.reduceAdd, Int.reduceSub, Int.reduceMul, Int.reduceNeg, reduceIte, ite_true, ite_false, true_and, and_true, false_and, and_false, true_or, or_true, false_or, or_false, not_true_eq_false, not_false_eq_true, and_self, or_self, eq_self, ite_self, decide_true, decide_false, Bool.true_and, Bool.and_true, Bool.and_self, Bool.false_and, Int.sub_zero, Int.add_zero, Int.zero_add, ax_rw, if_pos, if_neg, ax_w32, ax_let, hob, ax_o_2, kr_2_0, kr_2_1, kr_2_2, kr_2_3, kr_2_4, ax_a_3, ax_a_4, ax_a_5, ax_a_6, ax_a_7, ax_o_42, kr_42_0, kr_42_1, E'.1.1, Int.lt_irrefl, aq_256_26]
      exact hQ m' hK' (hs ▸ C') F'
  · rw [if_neg hf] at hQ
    have e0 := fun d => c_25 (d := d) hK hh C m0 m1
    rw [aq_256_9]
    by_cases hT0 : 0 < T
    · simp (disch := first | assumption | omega) only [ax_gt, ax_gi, Option.bind_some, ax_gbl, ax_gb2, ax_gd, Int.reduceEq, Int.reduceNe, Int.reduceLT, Int.reduceLE, Int.reduceAdd, Int.reduceSub, Int.reduceMul, Int.reduceNeg, reduceIte, ite_true, ite_false, true_and, and_true, false_and, and_false, true_or, or_true, false_or, or_false, not_true_eq_false, not_false_eq_true, and_self, or_self, eq_self, ite_self, decide_true, decide_false, Bool.true_and, Bool.and_true, Bool.and_self, Bool.false_and, Int.sub_zero, Int.add_zero, Int.zero_add, ax_rw, if_pos, if_neg, ax_w32, ax_let, hob, ax_o_2, kr_2_0, kr_2_1, kr_2_2, kr_2_3, kr_2_4, ax_a_3, ax_a_4, ax_a_5, ax_a_6, ax_a_7, ax_o_42, kr_42_0, kr_42_1, E.1.1, hT0, e0, ax_b0, hf, aq_256_26]
      exact hQ M hK C HF_refl
    · simp (disch := first | assumption | omega) only [ax_gt, ax_gi, Option.bind_some, ax_gbl, ax_gb2, ax_gd, Int.reduceEq, Int.reduceNe, Int.reduceLT, Int.reduceLE, Int.reduceAdd, Int.reduceSub, Int.reduceMul, Int.reduceNeg, reduceIte, ite_true, ite_false, true_and, and_true, false_and, and_false, true_or, or_true, false_or, or_false, not_true_eq_false, not_false_eq_true, and_self, or_self, eq_self, ite_self, decide_true, decide_false, Bool.true_and, Bool.and_true, Bool.and_self, Bool.false_and, Int.sub_zero, Int.add_zero, Int.zero_add, ax_rw, if_pos, if_neg, ax_w32, ax_let, hob, ax_o_2, kr_2_0, kr_2_1, kr_2_2, kr_2_3, kr_2_4, ax_a_3, ax_a_4, ax_a_5, ax_a_6, ax_a_7, ax_o_42, kr_42_0, kr_42_1, E.1.1, hT0, aq_256_26]
      exact hQ M hK C HF_refl
/-- a night of the men from a to ahead of b -/
theorem c_256 (hK : ax_K M) (hh : h = 8 ∨ h = 425) (C : CH M h n H) (E : CE M T n al P W cd) (S : ES T n al P W cd) (B : HB T H) {a b : Int} (a0 : 0 ≤ a) (ab : a ≤ b) (b0 : b ≤ n) (hd : H 162 < 1300) : ax_ok (am_Call d 256 [(2, 42), (2, h), (0, a), (0, b)] M) (fun _ M' => CH M' h n (hNi T al P W cd a b H) ∧ HF M M' h) := by
  have hTb := S.1
  have hn := S.2.1
  have hob := ob3 hh
  have B1 := HB_N1 S B a0 (by omega : b ≤ 6)
  have hd1 := hN1_o (H := H) S a0 (by omega : b ≤ 6) (j := 162) (by omega)
  rw [aq_256]
  unfold hNi
  dsimp only
  generalize hH1 : ax_fo (fun m H => hNm T P W cd m H) (b - a).toNat a H = H1 at *
  refine ax_loopQ (σ := Int → Int) (X := fun m _ m' => am_Ex d 256 3 [(2, 42), (2, h), (0, a), (0, b), (0, m), am_N] [] m') (n := b) (fun m H' m' => a ≤ m ∧ ax_K m' ∧ CH m' h n H' ∧ HF M m' h ∧ HB T H' ∧ ax_fo (fun m H => hNm T P W cd m H) (b - m).toNat m H' = H1) ?_ ?_ (b - a).toNat a H M (by omega) ⟨by omega, hK, C, HF_refl, B, hH1⟩
  · intro m H' m' ⟨m0, hK', C', F', B', hs⟩ m1 hnext
    have E' := HF_CE hh E F'
    show ax_ok (am_Ex d 256 3 _ _ _) _
    rw [aq_256_3, if_pos m1]
    exact c_256a hK' hh C' E' S B' (by omega) (by omega) fun M1 hK1 C1 F1 => hnext (hNm T P W cd m H') M1 ⟨by omega, hK1, C1, HF_trans F' F1, HB_Nm S B' (by omega) (by omega), by rw [← hs, ax_fo_s m1]⟩
  · intro H' m' ⟨m0, hK', C', F', B', hs⟩
    rw [ax_fo_e (by omega)] at hs
    subst hs
    have hday := C'.2.2.2.2.2.2.2.1
    have b3 := B'.2.2.1
    obtain ⟨k2, C2, F2⟩ := c_day (v := H' 162 + 1) hK' hh C'
    have w1 : am_w32 (H' 162 + 1) = H' 162 + 1 := ax_w32 (by omega) (by omega)
    have w2 : am_rem (H' 162 + 1) 30 = (H' 162 + 1) % 30 := ax_rem (by omega) (by omega) (by omega) (by omega)
    show ax_ok (am_Ex d 256 3 _ _ _) _
    rw [aq_256_3]
    simp (disch := first | assumption | omega) only [ax_gt, ax_gi, Option.bind_some, ax_gbl, ax_gb2, ax_gd, Int.reduceEq, Int.reduceNe, Int.reduceLT, Int.reduceLE, Int.reduceAdd, Int.reduceSub, Int.reduceMul, Int.reduceNeg, reduceIte, ite_true, ite_false, true_and, and_true, false_and, and_false, true_or, or_true, false_or, or_false, not_true_eq_false, not_false_eq_true, and_self, or_self, eq_self, ite_self, decide_true, decide_false, Bool.true_and, Bool.and_true, Bool.and_self, Bool.false_and, Int.sub_zero, Int.add_zero, Int.zero_add, ax_rw, if_pos, if_neg, ax_let, hob, hday, Int.lt_irrefl, w1, ax_ws, w2, hu_at]
    by_cases h30 : (H' 162 + 1) % 30 = 0
    · rw [if_pos h30, if_pos h30]
      refine ax_loopM (σ := Int → Int) (X := fun m _ m' => am_Ex d 256 43 [(2, 42), (2, h), am_N, (0, b), (0, m), am_N] [] m') (n := b) (fun m H2 m2 => a ≤ m ∧ ax_K m2 ∧ CH m2 h n H2 ∧ HF M m2 h ∧ HB T H2 ∧ ax_fo (fun m H => hTf T al P W cd m H) (b - m).toNat m H2 = ax_fo (fun m H => hTf T al P W cd m H) (b - a).toNat a (hu H' 162 (H' 162 + 1))) ?_ ?_ (b - a).toNat a (hu H' 162 (H' 162 + 1)) _ (by omega) ⟨by omega, k2, C2, HF_trans F' F2, HB_day B' (by omega) (by omega), rfl⟩
      · intro m H2 m2 ⟨m0, hK3, C3, F3, B3, hs⟩ m1
        have E3 := HF_CE hh E F3
        have e0 := fun d => c_25 (d := d) hK3 hh C3 (m := m) (by omega) (by omega)
        by_cases hf : H2 (156 + m) = 0
        · obtain ⟨r1, M1, e1, -, C1, F1⟩ := c_235 (d := d) hK3 hh C3 E3 S B3 (m := m) (by omega) (by omega)
          have hT1 : hTf T al P W cd m H2 = hT T al P W cd m H2 := if_pos hf
          refine ⟨hT T al P W cd m H2, M1, ?_, by omega, ax_Kp e1 hK3 rfl, C1, HF_trans F3 F1, HB_T B3 (by omega) (by omega), by rw [← hs, ax_fo_s m1, hT1]⟩
          show am_Ex d 256 43 _ _ _ = _
          rw [aq_256_43]
          simp (disch := first | assumption | omega) only [ax_gt, ax_gi, Option.bind_some, ax_gbl, ax_gb2, ax_gd, Int.reduceEq, Int.reduceNe, Int.reduceLT, Int.reduceLE, Int.reduceAdd, Int.reduceSub, Int.reduceMul, Int.reduceNeg, reduceIte, ite_true, ite_false, true_and, and_true, false_and, and_false, true_or, or_true, false_or, or_false, not_true_eq_false, not_false_eq_true, and_self, or_self, eq_self, ite_self, decide_true, decide_false, Bool.true_and, Bool.and_true, Bool.and_self, Bool.false_and, Int.sub_zero, Int.add_zero, Int.zero_add, ax_rw, if_pos, if_neg, ax_w32, ax_let, hob, ax_o_42, kr_42_0, kr_42_1, e0, ax_b0, hf, e1, aq_256_56]
        · have hT1 : hTf T al P W cd m H2 = H2 := if_neg hf
          refine ⟨H2, m2, ?_, by omega, hK3, C3, F3, B3, by rw [← hs, ax_fo_s m1, hT1]⟩
          show am_Ex d 256 43 _ _ _ = _
          rw [aq_256_43]
          simp (disch := first | assumption | omega) only [ax_gt, ax_gi, Option.bind_some, ax_gbl, ax_gb2, ax_gd, Int.reduceEq, Int.reduceNe, Int.reduceLT, Int.reduceLE, Int.reduceAdd, Int.reduceSub, Int.reduceMul, Int.reduceNeg, reduceIte, ite_true, ite_false, true_and, and_true, false_and, and_false, true_or, or_true, false_or, or_false, not_true_eq_false, not_false_eq_true, and_self, or_self, eq_self, ite_self, decide_true, decide_false, Bool.true_and, Bool.and_true, Bool.and_self, Bool.false_and, Int.sub_zero, Int.add_zero, Int.zero_add, ax_rw, if_pos, if_neg, ax_w32, ax_let, hob, ax_o_42, kr_42_0, kr_42_1, e0, ax_b0, hf, aq_256_56]
      · intro H2 m2 ⟨m0, hK3, C3, F3, B3, hs⟩
        rw [ax_fo_e (by omega)] at hs
        subst hs
        show ax_ok (am_Ex d 256 43 _ _ _) _
        rw [aq_256_43, if_neg (by omega)]
        exact ax_ok_some ⟨C3, F3⟩
    · rw [if_neg h30, if_neg h30]
      exact ax_ok_some ⟨C2, HF_trans F' F2⟩
end
