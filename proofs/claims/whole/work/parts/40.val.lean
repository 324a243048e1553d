/-! THE LAWS: what they say, on the developers' side -/
theorem ax_let {α β : Type} (v : α) (f : α → Option β) : am_let v f = f v := rfl
theorem hcl_r {lo hi v : Int} (h : lo ≤ hi) : lo ≤ hcl lo hi v ∧ hcl lo hi v ≤ hi := by
  unfold hcl
  (repeat' split) <;> omega
def CT (M : am_M) (s k : Int) (c : Option (List (Int × Int))) : Prop := match c with
  | none => am_rd M (s + 2) k < 0
  | some c => 0 ≤ am_rd M (s + 2) k ∧ am_rd M (s + 3) k = am_rd M (s + 2) k + (c.length : Int) ∧ am_rd M (s + 2) k + (c.length : Int) ≤ 300 ∧ ∀ (j : Nat) (hj : j < c.length), am_rd M (s + 1) (am_rd M (s + 2) k + j) = lx_enc c[j]
def CL (M : am_M) (cd : Int → Option (List (Int × Int))) : Prop :=
  (am_rd M 2 12 = -1 ∧ ∀ k, 0 ≤ k → k < 4 → cd k = none) ∨ (0 ≤ am_rd M 2 12 ∧ am_rd M 2 12 < 4 ∧ ∀ k, 0 ≤ k → k < 4 → CT M (15 + 6 * am_rd M 2 12) k (cd k))
/-- what the laws see of the guild; what is known of it -/
def CE (M : am_M) (T n al : Int) (P W : Int → Int) (cd : Int → Option (List (Int × Int))) : Prop := (am_rd M 2 5 = T ∧ am_rd M 2 6 = n ∧ am_rd M 2 10 = al) ∧ (∀ j, 0 ≤ j → j < 6 → am_rd M 5 j = P j) ∧ (∀ j, 0 ≤ j → j < 8 → am_rd M 3 j = W j) ∧ CL M cd
def ES (T n al : Int) (P W : Int → Int) (cd : Int → Option (List (Int × Int))) : Prop := (0 ≤ T ∧ T ≤ 8) ∧ (0 ≤ n ∧ n ≤ 6) ∧ (0 ≤ al ∧ al ≤ 8) ∧ (∀ j, 0 ≤ j → j < 6 → 0 ≤ P j ∧ P j ≤ 9) ∧ (∀ j, 0 ≤ j → j < 8 → 0 ≤ W j ∧ W j ≤ 99) ∧ (∀ k c, 0 ≤ k → k < 4 → cd k = some c → lx_ok k c)
theorem CT_same {M M' : am_M} {s k : Int} {c : Option (List (Int × Int))} (h : CT M s k c) (e : ∀ c i, s ≤ c → c ≤ s + 5 → am_rd M' c i = am_rd M c i) : CT M' s k c := by
  unfold CT at h ⊢
  rw [e (s + 2) k (by omega) (by omega), e (s + 3) k (by omega) (by omega)]
  cases c with
  | none => exact h
  | some c => exact ⟨h.1, h.2.1, h.2.2.1, fun j hj => (e _ _ (by omega) (by omega)).trans (h.2.2.2 j hj)⟩
theorem CL_same {M M' : am_M} {cd : Int → Option (List (Int × Int))} (h : CL M cd) (e : ∀ c i, c ≤ 7 ∨ (14 ≤ c ∧ c ≤ 38) → am_rd M' c i = am_rd M c i) : CL M' cd := by
  unfold CL at h ⊢
  rw [e 2 12 (by omega)]
  rcases h with h | ⟨h1, h2, h3⟩
  · exact Or.inl h
  · exact Or.inr ⟨h1, h2, fun k k0 k1 => CT_same (h3 k k0 k1) fun c i c0 c1 => e c i (by omega)⟩
theorem CE_same {M M' : am_M} {T n al : Int} {P W : Int → Int} {cd : Int → Option (List (Int × Int))} (h : CE M T n al P W cd) (e : ∀ c i, c ≤ 7 ∨ (14 ≤ c ∧ c ≤ 38) → am_rd M' c i = am_rd M c i) : CE M' T n al P W cd := by
  obtain ⟨⟨h1, h2, h3⟩, h4, h5, h6⟩ := h
  exact ⟨⟨(e _ _ (by omega)).trans h1, (e _ _ (by omega)).trans h2, (e _ _ (by omega)).trans h3⟩, fun j j0 j1 => (e _ _ (by omega)).trans (h4 j j0 j1), fun j j0 j1 => (e _ _ (by omega)).trans (h5 j j0 j1), CL_same h6 e⟩
/-- the names -/
def lx_nm (P W H : Int → Int) (m t k : Int) : Int → Int := fun j => if j = 0 then t else if j = 1 then P m else if j = 2 then H (8 * m + t) else if j = 3 then H (48 + (8 * m + t)) else if j = 4 then W t else if j = 5 then H 162 else if j = 6 then am_and (am_shr (H (144 + m)) t) 1 else if j = 7 then (if H (150 + m) = t then 1 else 0) else k
theorem lx_nmN {T n al : Int} {P W H : Int → Int} {cd : Int → Option (List (Int × Int))} (E : ES T n al P W cd) (B : HB T H) {m t k : Int} (m0 : 0 ≤ m) (m1 : m < 6) (t0 : 0 ≤ t) (t1 : t < 8) (k0 : 0 ≤ k) (k1 : k ≤ 99) : lx_N (lx_nm P W H m t k) := by
  intro j _ _
  have h1 := E.2.2.2.1 m m0 m1
  have h2 := E.2.2.2.2.1 t t0 t1
  have h3 := B.1 (8 * m + t) (by omega) (by omega)
  have h4 := B.2.2.1
  have h5 := ax_01 (am_shr (H (144 + m)) t)
  unfold lx_nm
  (repeat' split) <;> omega
theorem lx_eval {k : Int} {c : List (Int × Int)} {N : Int → Int} (hN : lx_N N) (hc : lx_ok k c) : ∀ (ts ts' : List Bool) (vs : List Int), lx_T k ts c = some ts' → lx_V ts vs → lx_V ts' (lx_E N vs c) := by
  clear hc
  induction c with
  | nil => intro ts ts' vs h hV; cases h; exact hV
  | cons x c ih =>
    intro ts ts' vs h hV
    obtain ⟨t1, h1, h2⟩ := Option.bind_eq_some_iff.mp h
    exact ih t1 ts' _ h2 (lx_step hN hV h1)
theorem lx_head {k : Int} {c : List (Int × Int)} {N : Int → Int} (hN : lx_N N) (hc : lx_ok k c) : lx_v (decide (k = 0)) ((lx_E N [] c).headD 0) := by
  have h := lx_eval hN hc [] _ [] hc trivial
  revert h
  cases lx_E N [] c with
  | nil => intro h; exact h.elim
  | cons v vs => intro h; exact h.1
theorem lx_valr {T n al : Int} {P W : Int → Int} {cd : Int → Option (List (Int × Int))} (E : ES T n al P W cd) {k : Int} {N : Int → Int} (hN : lx_N N) (hk : 0 ≤ k) (hk1 : k < 4) (h8 : 0 ≤ N 8 ∧ N 8 ≤ 99) : -9 ≤ lx_val k (cd k) N ∧ lx_val k (cd k) N ≤ 99 ∧ (k = 0 → 0 ≤ lx_val k (cd k) N ∧ lx_val k (cd k) N ≤ 1) := by
  have h1 := E.2.2.2.2.2 k
  unfold lx_val
  cases hc : cd k with
  | none =>
    have h2 := ax_br (p := N 3 < N 2)
    dsimp only
    (repeat' split) <;> omega
  | some c =>
    have h2 := lx_head hN (h1 c hk hk1 hc)
    unfold lx_v at h2
    dsimp only
    by_cases hk0 : k = 0
    · simp only [hk0, decide_true, if_true] at h2 ⊢
      omega
    · rw [if_neg hk0]
      by_cases hk1 : k = 1
      · rw [if_pos hk1]
        have := hcl_r (lo := -9) (hi := 99) (v := (lx_E N [] c).headD 0) (by omega)
        omega
      · rw [if_neg hk1]
        have := hcl_r (lo := 0) (hi := 99) (v := (lx_E N [] c).headD 0) (by omega)
        omega
section
variable {M : am_M} {d : Nat} {h n T al m t k : Int} {P W H : Int → Int} {cd : Int → Option (List (Int × Int))}
theorem c_30 (hK : ax_K M) (hh : h = 8 ∨ h = 425) (C : CH M h n H) (hP : ∀ j, 0 ≤ j → j < 6 → am_rd M 5 j = P j) (hW : ∀ j, 0 ≤ j → j < 8 → am_rd M 3 j = W j) (m0 : 0 ≤ m) (m1 : m < 6) (m2 : m < n) (t0 : 0 ≤ t) (t1 : t < 8) : ax_ok (am_Call d 30 [(2, 39), (2, h), (0, m), (0, t), (0, k)] M) (fun _ M' => (∀ j, 0 ≤ j → j ≤ 8 → am_rd M' 40 j = lx_nm P W H m t k j) ∧ ∀ c i, c ≠ 40 → am_rd M' c i = am_rd M c i) := by
  obtain ⟨r1, r2, r3, r4, r5, r6, r7, r8, r9⟩ := C
  have e0 : m * 8 + t = 8 * m + t := by omega
  have key : am_Call d 30 [(2, 39), (2, h), (0, m), (0, t), (0, k)] M = some (0, am_wr (am_wr (am_wr (am_wr (am_wr (am_wr (am_wr (am_wr (am_wr M 40 0 t) 40 1 (P m)) 40 2 (H (8 * m + t))) 40 3 (H (48 + (8 * m + t)))) 40 4 (W t)) 40 5 (H 162)) 40 6 (am_and (am_shr (H (144 + m)) t) 1)) 40 7 (if H (150 + m) = t then 1 else 0)) 40 8 k) := by
    rw [aq_30]
    by_cases ht : H (150 + m) = t
    all_goals
      rcases hh with rfl | rfl
      all_goals
        simp (disch := first | assumption | omega) only [Int.reduceEq, Int.reduceNe, Int.reduceLT, Int.reduceLE, Int.reduceAdd, Int.reduceSub, Int.reduceMul, Int.reduceNeg, reduceIte, ite_true, ite_false, true_and, and_true, false_and, and_false, true_or, or_true, false_or, or_false, not_true_eq_false, not_false_eq_true, and_self, or_self, eq_self, ite_self, decide_true, decide_false, Bool.true_and, Bool.and_true, Bool.and_self, Bool.false_and, Int.sub_zero, Int.add_zero, Int.zero_add] at r1 r2 r4 r5
        rw [ax_let]
        simp (disch := first | assumption | omega) only [ax_gt, ax_gi, Option.bind_some, ax_gbl, ax_gb2, ax_gd, Int.reduceEq, Int.reduceNe, Int.reduceLT, Int.reduceLE, Int.reduceAdd, Int.reduceSub, Int.reduceMul, Int.reduceNeg, reduceIte, ite_true, ite_false, true_and, and_true, false_and, and_false, true_or, or_true, false_or, or_false, not_true_eq_false, not_false_eq_true, and_self, or_self, eq_self, ite_self, decide_true, decide_false, Bool.true_and, Bool.and_true, Bool.and_self, Bool.false_and, Int.sub_zero, Int.add_zero, Int.zero_add, ax_rw, if_pos, if_neg, ax_w32, ax_o_2, kr_2_0, kr_2_1, kr_2_2, kr_2_3, kr_2_4, ax_a_3, ax_a_4, ax_a_5, ax_a_6, ax_a_7, ax_o_8, kr_8_0, kr_8_1, kr_8_2, kr_8_3, kr_8_4, ax_a_9, ax_a_10, ax_a_11, ax_a_12, ax_a_13, ax_o_39, kr_39_0, kr_39_1, kr_39_2, kr_39_3, ax_a_40, ax_a_41, ax_o_425, kr_425_0, kr_425_1, kr_425_2, kr_425_3, kr_425_4, ax_a_426, ax_a_427, ax_a_428, ax_a_429, ax_a_430, e0, r1, r2, r4, r5, r8, hP, hW, ht]
        rw [ax_let]
        simp (disch := first | assumption | omega) only [ax_gt, ax_gi, Option.bind_some, ax_gbl, ax_gb2, ax_gd, Int.reduceEq, Int.reduceNe, Int.reduceLT, Int.reduceLE, Int.reduceAdd, Int.reduceSub, Int.reduceMul, Int.reduceNeg, reduceIte, ite_true, ite_false, true_and, and_true, false_and, and_false, true_or, or_true, false_or, or_false, not_true_eq_false, not_false_eq_true, and_self, or_self, eq_self, ite_self, decide_true, decide_false, Bool.true_and, Bool.and_true, Bool.and_self, Bool.false_and, Int.sub_zero, Int.add_zero, Int.zero_add, ax_rw, if_pos, if_neg, ax_w32, ax_o_2, kr_2_0, kr_2_1, kr_2_2, kr_2_3, kr_2_4, ax_a_3, ax_a_4, ax_a_5, ax_a_6, ax_a_7, ax_o_8, kr_8_0, kr_8_1, kr_8_2, kr_8_3, kr_8_4, ax_a_9, ax_a_10, ax_a_11, ax_a_12, ax_a_13, ax_o_39, kr_39_0, kr_39_1, kr_39_2, kr_39_3, ax_a_40, ax_a_41, ax_o_425, kr_425_0, kr_425_1, kr_425_2, kr_425_3, kr_425_4, ax_a_426, ax_a_427, ax_a_428, ax_a_429, ax_a_430, e0, r1, r2, r4, r5, r8, hP, hW, ht]
        rw [ax_let]
        simp (disch := first | assumption | omega) only [ax_gt, ax_gi, Option.bind_some, ax_gbl, ax_gb2, ax_gd, Int.reduceEq, Int.reduceNe, Int.reduceLT, Int.reduceLE, Int.reduceAdd, Int.reduceSub, Int.reduceMul, Int.reduceNeg, reduceIte, ite_true, ite_false, true_and, and_true, false_and, and_false, true_or, or_true, false_or, or_false, not_true_eq_false, not_false_eq_true, and_self, or_self, eq_self, ite_self, decide_true, decide_false, Bool.true_and, Bool.and_true, Bool.and_self, Bool.false_and, Int.sub_zero, Int.add_zero, Int.zero_add, ax_rw, if_pos, if_neg, ax_w32, ax_o_2, kr_2_0, kr_2_1, kr_2_2, kr_2_3, kr_2_4, ax_a_3, ax_a_4, ax_a_5, ax_a_6, ax_a_7, ax_o_8, kr_8_0, kr_8_1, kr_8_2, kr_8_3, kr_8_4, ax_a_9, ax_a_10, ax_a_11, ax_a_12, ax_a_13, ax_o_39, kr_39_0, kr_39_1, kr_39_2, kr_39_3, ax_a_40, ax_a_41, ax_o_425, kr_425_0, kr_425_1, kr_425_2, kr_425_3, kr_425_4, ax_a_426, ax_a_427, ax_a_428, ax_a_429, ax_a_430, e0, r1, r2, r4, r5, r8, hP, hW, ht]
        rw [ax_let]
        simp (disch := first | assumption | omega) only [ax_gt, ax_gi, Option.bind_some, ax_gbl, ax_gb2, ax_gd, Int.reduceEq, Int.reduceNe, Int.reduceLT, Int.reduceLE, Int.reduceAdd, Int.reduceSub, Int.reduceMul, Int.reduceNeg, reduceIte, ite_true, ite_false, true_and, and_true, false_and, and_false, true_or, or_true, false_or, or_false, not_true_eq_false, not_false_eq_true, and_self, or_self, eq_self, ite_self, decide_true, decide_false, Bool.true_and, Bool.and_true, Bool.and_self, Bool.false_and, Int.sub_zero, Int.add_zero, Int.zero_add, ax_rw, if_pos, if_neg, ax_w32, ax_o_2, kr_2_0, kr_2_1, kr_2_2, kr_2_3, kr_2_4, ax_a_3, ax_a_4, ax_a_5, ax_a_6, ax_a_7, ax_o_8, kr_8_0, kr_8_1, kr_8_2, kr_8_3, kr_8_4, ax_a_9, ax_a_10, ax_a_11, ax_a_12, ax_a_13, ax_o_39, kr_39_0, kr_39_1, kr_39_2, kr_39_3, ax_a_40, ax_a_41, ax_o_425, kr_425_0, kr_425_1, kr_425_2, kr_425_3, kr_425_4, ax_a_426, ax_a_427, ax_a_428, ax_a_429, ax_a_430, e0, r1, r2, r4, r5, r8, hP, hW, ht]
        rw [ax_let]
        simp (disch := first | assumption | omega) only [ax_gt, ax_gi, Option.bind_some, ax_gbl, ax_gb2, ax_gd, Int.reduceEq, Int.reduceNe, Int.reduceLT, Int.reduceLE, Int.reduceAdd, Int.reduceSub, Int.reduceMul, Int.reduceNeg, reduceIte, ite_true, ite_false, true_and, and_true, false_and, and_false, true_or, or_true, false_or, or_false, not_true_eq_false, not_false_eq_true, and_self, or_self, eq_self, ite_self, decide_true, decide_false, Bool.true_and, Bool.and_true, Bool.and_self, Bool.false_and, Int.sub_zero, Int.add_zero, Int.zero_add, ax_rw, if_pos, if_neg, ax_w32, ax_o_2, kr_2_0, kr_2_1, kr_2_2, kr_2_3, kr_2_4, ax_a_3, ax_a_4, ax_a_5, ax_a_6, ax_a_7, ax_o_8, kr_8_0, kr_8_1, kr_8_2, kr_8_3, kr_8_4, ax_a_9, ax_a_10, ax_a_11, ax_a_12, ax_a_13, ax_o_39, kr_39_0, kr_39_1, kr_39_2, kr_39_3, ax_a_40, ax_a_41, ax_o_425, kr_425_0, kr_425_1, kr_425_2, kr_425_3, kr_425_4, ax_a_426, ax_a_427, ax_a_428, ax_a_429, ax_a_430, e0, r1, r2, r4, r5, r8, hP, hW, ht]
        rw [ax_let]
        simp (disch := first | assumption | omega) only [ax_gt, ax_gi, Option.bind_some, ax_gbl, ax_gb2, ax_gd, Int.reduceEq, Int.reduceNe, Int.reduceLT, Int.reduceLE, Int.reduceAdd, Int.reduceSub, Int.reduceMul, Int.reduceNeg, reduceIte, ite_true, ite_false, true_and, and_true, false_and, and_false, true_or, or_true, false_or, or_false, not_true_eq_false, not_false_eq_true, and_self, or_self, eq_self, ite_self, decide_true, decide_false, Bool.true_and, Bool.and_true, Bool.and_self, Bool.false_and, Int.sub_zero, Int.add_zero, Int.zero_add, ax_rw, if_pos, if_neg, ax_w32, ax_o_2, kr_2_0, kr_2_1, kr_2_2, kr_2_3, kr_2_4, ax_a_3, ax_a_4, ax_a_5, ax_a_6, ax_a_7, ax_o_8, kr_8_0, kr_8_1, kr_8_2, kr_8_3, kr_8_4, ax_a_9, ax_a_10, ax_a_11, ax_a_12, ax_a_13, ax_o_39, kr_39_0, kr_39_1, kr_39_2, kr_39_3, ax_a_40, ax_a_41, ax_o_425, kr_425_0, kr_425_1, kr_425_2, kr_425_3, kr_425_4, ax_a_426, ax_a_427, ax_a_428, ax_a_429, ax_a_430, e0, r1, r2, r4, r5, r8, hP, hW, ht]
        rw [ax_let]
        simp (disch := first | assumption | omega) only [ax_gt, ax_gi, Option.bind_some, ax_gbl, ax_gb2, ax_gd, Int.reduceEq, Int.reduceNe, Int.reduceLT, Int.reduceLE, Int.reduceAdd, Int.reduceSub, Int.reduceMul, Int.reduceNeg, reduceIte, ite_true, ite_false, true_and, and_true, false_and, and_false, true_or, or_true, false_or, or_false, not_true_eq_false, not_false_eq_true, and_self, or_self, eq_self, ite_self, decide_true, decide_false, Bool.true_and, Bool.and_true, Bool.and_self, Bool.false_and, Int.sub_zero, Int.add_zero, Int.zero_add, ax_rw, if_pos, if_neg, ax_w32, ax_o_2, kr_2_0, kr_2_1, kr_2_2, kr_2_3, kr_2_4, ax_a_3, ax_a_4, ax_a_5, ax_a_6, ax_a_7, ax_o_8, kr_8_0, kr_8_1, kr_8_2, kr_8_3, kr_8_4, ax_a_9, ax_a_10, ax_a_11, ax_a_12, ax_a_13, ax_o_39, kr_39_0, kr_39_1, kr_39_2, kr_39_3, ax_a_40, ax_a_41, ax_o_425, kr_425_0, kr_425_1, kr_425_2, kr_425_3, kr_425_4, ax_a_426, ax_a_427, ax_a_428, ax_a_429, ax_a_430, e0, r1, r2, r4, r5, r8, hP, hW, ht]
        rw [ax_let]
        simp (disch := first | assumption | omega) only [ax_gt, ax_gi, Option.bind_some, ax_gbl, ax_gb2, ax_gd, Int.reduceEq, Int.reduceNe, Int.reduceLT, Int.reduceLE, Int.reduceAdd, Int.reduceSub, Int.reduceMul, Int.reduceNeg, reduceIte, ite_true, ite_false, true_and, and_true, false_and, and_false, true_or, or_true, false_or, or_false, not_true_eq_false, not_false_eq_true, and_self, or_self, eq_self, ite_self, decide_true, decide_false, Bool.true_and, Bool.and_true, Bool.and_self, Bool.false_and, Int.sub_zero, Int.add_zero, Int.zero_add, ax_rw, if_pos, if_neg, ax_w32, ax_o_2, kr_2_0, kr_2_1, kr_2_2, kr_2_3, kr_2_4, ax_a_3, ax_a_4, ax_a_5, ax_a_6, ax_a_7, ax_o_8, kr_8_0, kr_8_1, kr_8_2, kr_8_3, kr_8_4, ax_a_9, ax_a_10, ax_a_11, ax_a_12, ax_a_13, ax_o_39, kr_39_0, kr_39_1, kr_39_2, kr_39_3, ax_a_40, ax_a_41, ax_o_425, kr_425_0, kr_425_1, kr_425_2, kr_425_3, kr_425_4, ax_a_426, ax_a_427, ax_a_428, ax_a_429, ax_a_430, e0, r1, r2, r4, r5, r8, hP, hW, ht]
        rw [ax_let]
        simp (disch := first | assumption | omega) only [ax_gt, ax_gi, Option.bind_some, ax_gbl, ax_gb2, ax_gd, Int.reduceEq, Int.reduceNe, Int.reduceLT, Int.reduceLE, Int.reduceAdd, Int.reduceSub, Int.reduceMul, Int.reduceNeg, reduceIte, ite_true, ite_false, true_and, and_true, false_and, and_false, true_or, or_true, false_or, or_false, not_true_eq_false, not_false_eq_true, and_self, or_self, eq_self, ite_self, decide_true, decide_false, Bool.true_and, Bool.and_true, Bool.and_self, Bool.false_and, Int.sub_zero, Int.add_zero, Int.zero_add, ax_rw, if_pos, if_neg, ax_w32, ax_o_2, kr_2_0, kr_2_1, kr_2_2, kr_2_3, kr_2_4, ax_a_3, ax_a_4, ax_a_5, ax_a_6, ax_a_7, ax_o_8, kr_8_0, kr_8_1, kr_8_2, kr_8_3, kr_8_4, ax_a_9, ax_a_10, ax_a_11, ax_a_12, ax_a_13, ax_o_39, kr_39_0, kr_39_1, kr_39_2, kr_39_3, ax_a_40, ax_a_41, ax_o_425, kr_425_0, kr_425_1, kr_425_2, kr_425_3, kr_425_4, ax_a_426, ax_a_427, ax_a_428, ax_a_429, ax_a_430, e0, r1, r2, r4, r5, r8, hP, hW, ht]
        rw [ax_let]
  rw [key]
  refine ax_ok_some ⟨?_, ?_⟩
  · intro j j0 j1
    unfold lx_nm
    have : j = 0 ∨ j = 1 ∨ j = 2 ∨ j = 3 ∨ j = 4 ∨ j = 5 ∨ j = 6 ∨ j = 7 ∨ j = 8 := by omega
    rcases this with rfl | rfl | rfl | rfl | rfl | rfl | rfl | rfl | rfl <;> simp only [ax_rw, Int.reduceEq, Int.reduceNe, Int.reduceLT, Int.reduceLE, Int.reduceAdd, Int.reduceSub, Int.reduceMul, Int.reduceNeg, reduceIte, ite_true, ite_false, true_and, and_true, false_and, and_false, true_or, or_true, false_or, or_false, not_true_eq_false, not_false_eq_true, and_self, or_self, eq_self, ite_self, decide_true, decide_false, Bool.true_and, Bool.and_true, Bool.and_self, Bool.false_and, Int.sub_zero, Int.add_zero, Int.zero_add]
  · intro c i hc
    simp only [ax_rw, hc, false_and, if_false]
theorem c_31 {N : Int → Int} (hK : ax_K M) (hN : ∀ j, 0 ≤ j → j ≤ 8 → am_rd M 40 j = N j) (hk : 0 ≤ k) (hk1 : k < 4) (h8 : 0 ≤ N 8 ∧ N 8 ≤ 99) : am_Call d 31 [(2, 39), (0, k), (0, N 8)] M = some (lx_val k none N, M) := by
  have : k = 0 ∨ k = 1 ∨ k = 2 ∨ k = 3 := by omega
  have h2 : am_div (N 8) 2 = N 8 / 2 := by rw [ax_div (by omega) (by omega) (by omega) (by omega), Int.tdiv_eq_ediv_of_nonneg h8.1]
  rw [aq_31]
  unfold lx_val
  rcases this with rfl | rfl | rfl | rfl
  · simp (disch := first | assumption | omega) only [↓ax_let, ax_gt, ax_gi, Option.bind_some, ax_gbl, ax_gb2, ax_gd, Int.reduceEq, Int.reduceNe, Int.reduceLT, Int.reduceLE, Int.reduceAdd, Int.reduceSub, Int.reduceMul, Int.reduceNeg, reduceIte, ite_true, ite_false, true_and, and_true, false_and, and_false, true_or, or_true, false_or, or_false, not_true_eq_false, not_false_eq_true, and_self, or_self, eq_self, ite_self, decide_true, decide_false, Bool.true_and, Bool.and_true, Bool.and_self, Bool.false_and, Int.sub_zero, Int.add_zero, Int.zero_add, ax_rw, if_pos, if_neg, ax_o_39, kr_39_0, kr_39_1, kr_39_2, kr_39_3, ax_a_40, ax_a_41, hN]
    (unfold ax_b; (repeat' split) <;> first | rfl | (exfalso; omega))
  · simp only [Int.reduceEq, Int.reduceNe, Int.reduceLT, Int.reduceLE, Int.reduceAdd, Int.reduceSub, Int.reduceMul, Int.reduceNeg, reduceIte, ite_true, ite_false, true_and, and_true, false_and, and_false, true_or, or_true, false_or, or_false, not_true_eq_false, not_false_eq_true, and_self, or_self, eq_self, ite_self, decide_true, decide_false, Bool.true_and, Bool.and_true, Bool.and_self, Bool.false_and, Int.sub_zero, Int.add_zero, Int.zero_add]
  · simp only [Int.reduceEq, Int.reduceNe, Int.reduceLT, Int.reduceLE, Int.reduceAdd, Int.reduceSub, Int.reduceMul, Int.reduceNeg, reduceIte, ite_true, ite_false, true_and, and_true, false_and, and_false, true_or, or_true, false_or, or_false, not_true_eq_false, not_false_eq_true, and_self, or_self, eq_self, ite_self, decide_true, decide_false, Bool.true_and, Bool.and_true, Bool.and_self, Bool.false_and, Int.sub_zero, Int.add_zero, Int.zero_add]
  · simp only [Int.reduceEq, Int.reduceNe, Int.reduceLT, Int.reduceLE, Int.reduceAdd, Int.reduceSub, Int.reduceMul, Int.reduceNeg, reduceIte, ite_true, ite_false, true_and, and_true, false_and, and_false, true_or, or_true, false_or, or_false, not_true_eq_false, not_false_eq_true, and_self, or_self, eq_self, ite_self, decide_true, decide_false, Bool.true_and, Bool.and_true, Bool.and_self, Bool.false_and, Int.sub_zero, Int.add_zero, Int.zero_add, h2]
theorem c_51 {s : Int} (hK : ax_K M) (hs : s = 15 ∨ s = 21 ∨ s = 27 ∨ s = 33) (hk : 0 ≤ k) (hk1 : k < 4) : am_Call d 51 [(2, s), (0, k)] M = some (ax_b (0 ≤ am_rd M (s + 2) k), M) := by
  rw [aq_51]
  rcases hs with rfl | rfl | rfl | rfl
  all_goals
    simp (disch := first | assumption | omega) only [↓ax_let, ax_gt, ax_gi, Option.bind_some, ax_gbl, ax_gb2, ax_gd, Int.reduceEq, Int.reduceNe, Int.reduceLT, Int.reduceLE, Int.reduceAdd, Int.reduceSub, Int.reduceMul, Int.reduceNeg, reduceIte, ite_true, ite_false, true_and, and_true, false_and, and_false, true_or, or_true, false_or, or_false, not_true_eq_false, not_false_eq_true, and_self, or_self, eq_self, ite_self, decide_true, decide_false, Bool.true_and, Bool.and_true, Bool.and_self, Bool.false_and, Int.sub_zero, Int.add_zero, Int.zero_add, ax_rw, if_pos, if_neg, ax_o_15, kr_15_0, kr_15_2, kr_15_3, kr_15_4, kr_15_5, ax_a_16, ax_a_17, ax_a_18, ax_a_19, ax_a_20, ax_o_21, kr_21_0, kr_21_2, kr_21_3, kr_21_4, kr_21_5, ax_a_22, ax_a_23, ax_a_24, ax_a_25, ax_a_26, ax_o_27, kr_27_0, kr_27_2, kr_27_3, kr_27_4, kr_27_5, ax_a_28, ax_a_29, ax_a_30, ax_a_31, ax_a_32, ax_o_33, kr_33_0, kr_33_2, kr_33_3, kr_33_4, kr_33_5, ax_a_34, ax_a_35, ax_a_36, ax_a_37, ax_a_38]
    (unfold ax_b; (repeat' split) <;> first | rfl | (exfalso; omega))
theorem c_174 (hK : ax_K M) (hh : h = 8 ∨ h = 425) (C : CH M h n H) (E : CE M T n al P W cd) (S : ES T n al P W cd) (B : HB T H) (m0 : 0 ≤ m) (m2 : m < n) (t0 : 0 ≤ t) (t1 : t < 8) {l : Int} (l0 : 0 ≤ l) (l1 : l < 4) (k0 : 0 ≤ k) (k1 : k ≤ 99) : ax_ok (am_Call d 174 [(2, 39), (0, l), (2, h), (0, m), (0, t), (0, k)] M) (fun r M' => r = lx_val l (cd l) (lx_nm P W H m t k) ∧ ∀ c i, c ≠ 40 → c ≠ 41 → am_rd M' c i = am_rd M c i) := by
  have m1 : m < 6 := by have := S.2.1; omega
  obtain ⟨r, M1, e1, hN, hf⟩ := c_30 (d := d) (k := k) hK hh C E.2.1 E.2.2.1 m0 m1 m2 t0 t1
  have hK1 := ax_Kp e1 hK rfl
  have L : CL M1 cd := CL_same E.2.2.2 fun c i hc => hf c i (by omega)
  have NN := lx_nmN (k := k) S B m0 m1 t0 t1 k0 k1
  have h8 : lx_nm P W H m t k 8 = k := by unfold lx_nm; simp only [Int.reduceEq, Int.reduceNe, Int.reduceLT, Int.reduceLE, Int.reduceAdd, Int.reduceSub, Int.reduceMul, Int.reduceNeg, reduceIte, ite_true, ite_false, true_and, and_true, false_and, and_false, true_or, or_true, false_or, or_false, not_true_eq_false, not_false_eq_true, and_self, or_self, eq_self, ite_self, decide_true, decide_false, Bool.true_and, Bool.and_true, Bool.and_self, Bool.false_and, Int.sub_zero, Int.add_zero, Int.zero_add]
  have e31 : ∀ d, am_Call d 31 [(2, 39), (0, l), (0, k)] M1 = some (lx_val l none (lx_nm P W H m t k), M1) := fun d => by
    have := c_31 (d := d) (k := l) hK1 hN l0 l1 (by rw [h8]; omega)
    rw [h8] at this
    exact this
  rw [aq_174]
  simp (disch := first | assumption | omega) only [↓ax_let, ax_gt, ax_gi, Option.bind_some, ax_gbl, ax_gb2, ax_gd, Int.reduceEq, Int.reduceNe, Int.reduceLT, Int.reduceLE, Int.reduceAdd, Int.reduceSub, Int.reduceMul, Int.reduceNeg, reduceIte, ite_true, ite_false, true_and, and_true, false_and, and_false, true_or, or_true, false_or, or_false, not_true_eq_false, not_false_eq_true, and_self, or_self, eq_self, ite_self, decide_true, decide_false, Bool.true_and, Bool.and_true, Bool.and_self, Bool.false_and, Int.sub_zero, Int.add_zero, Int.zero_add, ax_rw, if_pos, if_neg, ax_o_2, kr_2_0, kr_2_1, kr_2_2, kr_2_3, kr_2_4, ax_a_3, ax_a_4, ax_a_5, ax_a_6, ax_a_7, ax_o_39, kr_39_0, kr_39_1, kr_39_2, kr_39_3, ax_a_40, ax_a_41, e1]
  rcases L with ⟨L1, L2⟩ | ⟨L1, L2, L3⟩
  · simp (disch := first | assumption | omega) only [↓ax_let, ax_gt, ax_gi, Option.bind_some, ax_gbl, ax_gb2, ax_gd, Int.reduceEq, Int.reduceNe, Int.reduceLT, Int.reduceLE, Int.reduceAdd, Int.reduceSub, Int.reduceMul, Int.reduceNeg, reduceIte, ite_true, ite_false, true_and, and_true, false_and, and_false, true_or, or_true, false_or, or_false, not_true_eq_false, not_false_eq_true, and_self, or_self, eq_self, ite_self, decide_true, decide_false, Bool.true_and, Bool.and_true, Bool.and_self, Bool.false_and, Int.sub_zero, Int.add_zero, Int.zero_add, ax_rw, if_pos, if_neg, ax_o_2, kr_2_0, kr_2_1, kr_2_2, kr_2_3, kr_2_4, ax_a_3, ax_a_4, ax_a_5, ax_a_6, ax_a_7, ax_o_39, kr_39_0, kr_39_1, kr_39_2, kr_39_3, ax_a_40, ax_a_41, L1, aq_174_23, aq_174_32, e31, L2 l l0 l1]
    exact ax_ok_some ⟨rfl, fun c i h1 _ => hf c i h1⟩
  · have hq : am_rd M1 14 (am_rd M1 2 12) = 15 + 6 * am_rd M1 2 12 := (hK1.2 14 _ (by show (decide (0 ≤ am_rd M1 2 12) && decide (am_rd M1 2 12 < 4)) = true; rw [decide_eq_true L1, decide_eq_true L2]; rfl)).trans (by show (14 : Int) + 1 + 6 * am_rd M1 2 12 = _; omega)
    have L4 := L3 l l0 l1
    have hs : 15 + 6 * am_rd M1 2 12 = 15 ∨ 15 + 6 * am_rd M1 2 12 = 21 ∨ 15 + 6 * am_rd M1 2 12 = 27 ∨ 15 + 6 * am_rd M1 2 12 = 33 := by omega
    simp (disch := first | assumption | omega) only [↓ax_let, ax_gt, ax_gi, Option.bind_some, ax_gbl, ax_gb2, ax_gd, Int.reduceEq, Int.reduceNe, Int.reduceLT, Int.reduceLE, Int.reduceAdd, Int.reduceSub, Int.reduceMul, Int.reduceNeg, reduceIte, ite_true, ite_false, true_and, and_true, false_and, and_false, true_or, or_true, false_or, or_false, not_true_eq_false, not_false_eq_true, and_self, or_self, eq_self, ite_self, decide_true, decide_false, Bool.true_and, Bool.and_true, Bool.and_self, Bool.false_and, Int.sub_zero, Int.add_zero, Int.zero_add, ax_rw, if_pos, if_neg, ax_o_2, kr_2_0, kr_2_1, kr_2_2, kr_2_3, kr_2_4, ax_a_3, ax_a_4, ax_a_5, ax_a_6, ax_a_7, ax_q_14, kr_14_0, kr_14_1, kr_14_2, kr_14_3, ax_o_39, kr_39_0, kr_39_1, kr_39_2, kr_39_3, ax_a_40, ax_a_41, hq, show am_ia 14 = true from rfl, show am_ln 14 = 4 from rfl]
    generalize 15 + 6 * am_rd M1 2 12 = s at *
    have hne : ¬ s = 0 := by omega
    have hob : am_ob s 8 = true := by rcases hs with rfl | rfl | rfl | rfl <;> rfl
    have e51 := fun d => c_51 (d := d) hK1 hs l0 l1
    have q1 : am_rd M1 s 2 = s + 2 := by rcases hs with rfl | rfl | rfl | rfl <;> simp only [ax_o_15, kr_15_0, kr_15_2, kr_15_3, kr_15_4, kr_15_5, ax_a_16, ax_a_17, ax_a_18, ax_a_19, ax_a_20, ax_o_21, kr_21_0, kr_21_2, kr_21_3, kr_21_4, kr_21_5, ax_a_22, ax_a_23, ax_a_24, ax_a_25, ax_a_26, ax_o_27, kr_27_0, kr_27_2, kr_27_3, kr_27_4, kr_27_5, ax_a_28, ax_a_29, ax_a_30, ax_a_31, ax_a_32, ax_o_33, kr_33_0, kr_33_2, kr_33_3, kr_33_4, kr_33_5, ax_a_34, ax_a_35, ax_a_36, ax_a_37, ax_a_38, hK1, Int.reduceEq, Int.reduceNe, Int.reduceLT, Int.reduceLE, Int.reduceAdd, Int.reduceSub, Int.reduceMul, Int.reduceNeg, reduceIte, ite_true, ite_false, true_and, and_true, false_and, and_false, true_or, or_true, false_or, or_false, not_true_eq_false, not_false_eq_true, and_self, or_self, eq_self, ite_self, decide_true, decide_false, Bool.true_and, Bool.and_true, Bool.and_self, Bool.false_and, Int.sub_zero, Int.add_zero, Int.zero_add]
    have q2 : am_rd M1 s 3 = s + 3 := by rcases hs with rfl | rfl | rfl | rfl <;> simp only [ax_o_15, kr_15_0, kr_15_2, kr_15_3, kr_15_4, kr_15_5, ax_a_16, ax_a_17, ax_a_18, ax_a_19, ax_a_20, ax_o_21, kr_21_0, kr_21_2, kr_21_3, kr_21_4, kr_21_5, ax_a_22, ax_a_23, ax_a_24, ax_a_25, ax_a_26, ax_o_27, kr_27_0, kr_27_2, kr_27_3, kr_27_4, kr_27_5, ax_a_28, ax_a_29, ax_a_30, ax_a_31, ax_a_32, ax_o_33, kr_33_0, kr_33_2, kr_33_3, kr_33_4, kr_33_5, ax_a_34, ax_a_35, ax_a_36, ax_a_37, ax_a_38, hK1, Int.reduceEq, Int.reduceNe, Int.reduceLT, Int.reduceLE, Int.reduceAdd, Int.reduceSub, Int.reduceMul, Int.reduceNeg, reduceIte, ite_true, ite_false, true_and, and_true, false_and, and_false, true_or, or_true, false_or, or_false, not_true_eq_false, not_false_eq_true, and_self, or_self, eq_self, ite_self, decide_true, decide_false, Bool.true_and, Bool.and_true, Bool.and_self, Bool.false_and, Int.sub_zero, Int.add_zero, Int.zero_add]
    have a1 : am_ar (s + 2) 20 l = true := by
      have h1 : (decide (0 ≤ l) && decide (l < 4)) = true := by rw [decide_eq_true l0, decide_eq_true l1]; rfl
      rcases hs with rfl | rfl | rfl | rfl <;> exact h1
    have a2 : am_ar (s + 3) 20 l = true := by
      have h1 : (decide (0 ≤ l) && decide (l < 4)) = true := by rw [decide_eq_true l0, decide_eq_true l1]; rfl
      rcases hs with rfl | rfl | rfl | rfl <;> exact h1
    simp (disch := first | assumption | omega) only [↓ax_let, ax_gt, ax_gi, Option.bind_some, ax_gbl, ax_gb2, ax_gd, Int.reduceEq, Int.reduceNe, Int.reduceLT, Int.reduceLE, Int.reduceAdd, Int.reduceSub, Int.reduceMul, Int.reduceNeg, reduceIte, ite_true, ite_false, true_and, and_true, false_and, and_false, true_or, or_true, false_or, or_false, not_true_eq_false, not_false_eq_true, and_self, or_self, eq_self, ite_self, decide_true, decide_false, Bool.true_and, Bool.and_true, Bool.and_self, Bool.false_and, Int.sub_zero, Int.add_zero, Int.zero_add, hne, hob, e51, ax_b0]
    cases hc : cd l with
    | none =>
      rw [hc] at L4
      have L4 : am_rd M1 (s + 2) l < 0 := L4
      simp (disch := first | assumption | omega) only [↓ax_let, ax_gt, ax_gi, Option.bind_some, ax_gbl, ax_gb2, ax_gd, Int.reduceEq, Int.reduceNe, Int.reduceLT, Int.reduceLE, Int.reduceAdd, Int.reduceSub, Int.reduceMul, Int.reduceNeg, reduceIte, ite_true, ite_false, true_and, and_true, false_and, and_false, true_or, or_true, false_or, or_false, not_true_eq_false, not_false_eq_true, and_self, or_self, eq_self, ite_self, decide_true, decide_false, Bool.true_and, Bool.and_true, Bool.and_self, Bool.false_and, Int.sub_zero, Int.add_zero, Int.zero_add, ax_rw, if_pos, if_neg, ax_o_39, kr_39_0, kr_39_1, kr_39_2, kr_39_3, ax_a_40, ax_a_41, aq_174_32, e31]
      exact ax_ok_some ⟨rfl, fun c i h1 _ => hf c i h1⟩
    | some c =>
      rw [hc] at L4
      obtain ⟨f1, f2, f3, f4⟩ := L4
      have hok := S.2.2.2.2.2 l c l0 l1 hc
      obtain ⟨v, M2, e2, hv, hf2⟩ := c_123g (d := d) (N := lx_nm P W H m t k) (to := am_rd M1 (s + 2) l + (c.length : Int)) hs NN c [] _ [] (am_rd M1 (s + 2) l) 0 M1 hK1 hN hok trivial rfl (by decide) trivial f1 rfl f3 f4
      have e2' : am_Call d 123 [(2, 39), (2, s), (0, am_rd M1 (s + 2) l), (0, am_rd M1 (s + 3) l)] M1 = some (v, M2) := by
        rw [aq_123, f2]
        exact e2
      have hd := lx_head NN hok
      simp (disch := first | assumption | omega) only [↓ax_let, ax_gt, ax_gi, Option.bind_some, ax_gbl, ax_gb2, ax_gd, Int.reduceEq, Int.reduceNe, Int.reduceLT, Int.reduceLE, Int.reduceAdd, Int.reduceSub, Int.reduceMul, Int.reduceNeg, reduceIte, ite_true, ite_false, true_and, and_true, false_and, and_false, true_or, or_true, false_or, or_false, not_true_eq_false, not_false_eq_true, and_self, or_self, eq_self, ite_self, decide_true, decide_false, Bool.true_and, Bool.and_true, Bool.and_self, Bool.false_and, Int.sub_zero, Int.add_zero, Int.zero_add, ax_rw, if_pos, if_neg, q1, q2, a1, a2, e2']
      have e3 : lx_val l (some c) (lx_nm P W H m t k) = (if l = 0 then v else hcl (if l = 1 then -9 else 0) 99 v) := by rw [hv]; rfl
      rw [e3]
      have hF : ∀ c i, c ≠ 40 → c ≠ 41 → am_rd M2 c i = am_rd M c i := fun c i h1 h2 => (hf2 c i h2).trans (hf c i h1)
      by_cases q0 : l = 0
      · rw [if_pos q0, if_pos q0]
        exact ax_ok_some ⟨rfl, hF⟩
      · rw [if_neg q0, if_neg q0]
        by_cases q1 : l = 1
        · rw [if_pos q1, if_pos q1]
          have : (if v < -9 then some ((-9 : Int), M2) else if v ≤ 99 then some (v, M2) else some (99, M2)) = some (hcl (-9) 99 v, M2) := by
            unfold hcl
            (repeat' split) <;> rfl
          rw [this]
          exact ax_ok_some ⟨rfl, hF⟩
        · rw [if_neg q1, if_neg q1]
          have : (if v < 0 then some ((0 : Int), M2) else if v ≤ 99 then some (v, M2) else some (99, M2)) = some (hcl 0 99 v, M2) := by
            unfold hcl
            (repeat' split) <;> rfl
          rw [this]
          exact ax_ok_some ⟨rfl, hF⟩
/-- the turns that a man has -/
def hHad (T : Int) (P W : Int → Int) (cd : Int → Option (List (Int × Int))) (H : Int → Int) (m : Int) : Int := ax_fo (fun t s => am_or s (if lx_val 0 (cd 0) (lx_nm P W H m t 0) = 0 then 0 else am_shl 1 t)) (T - 0).toNat 0 0
theorem c_209 (hK : ax_K M) (hh : h = 8 ∨ h = 425) (C : CH M h n H) (E : CE M T n al P W cd) (S : ES T n al P W cd) (B : HB T H) (m0 : 0 ≤ m) (m2 : m < n) : ax_ok (am_Call d 209 [(2, 39), (2, h), (0, m)] M) (fun r M' => r = hHad T P W cd H m ∧ ∀ c i, c ≠ 40 → c ≠ 41 → am_rd M' c i = am_rd M c i) := by
  rw [aq_209]
  refine ax_loopM (σ := Int) (X := fun k s m' => am_Ex d 209 5 [(2, 39), (2, h), (0, m), (0, s), (0, k)] [] m') (n := T) (fun k s m' => 0 ≤ k ∧ ax_K m' ∧ (∀ c i, c ≠ 40 → c ≠ 41 → am_rd m' c i = am_rd M c i) ∧ ax_fo (fun t s => am_or s (if lx_val 0 (cd 0) (lx_nm P W H m t 0) = 0 then 0 else am_shl 1 t)) (T - k).toNat k s = hHad T P W cd H m) ?_ ?_ (T - 0).toNat 0 0 M (by have := S.1; omega) ⟨by omega, hK, fun _ _ _ _ => rfl, rfl⟩
  · intro k s m' ⟨k0, hK', hf, hs⟩ hk
    have CH' : CH m' h n H := CH_same C fun c i h1 h2 => hf c i (by omega) (by omega)
    have E' : CE m' T n al P W cd := CE_same E fun c i hc => hf c i (by omega) (by omega)
    have hT : am_rd m' 2 5 = T := E'.1.1
    have hS := S.1
    obtain ⟨r, M1, e1, hr, hf1⟩ := c_174 (d := d) (l := 0) (k := 0) hK' hh CH' E' S B m0 m2 k0 (by omega) (by omega) (by omega) (by omega) (by omega)
    refine ⟨am_or s (if lx_val 0 (cd 0) (lx_nm P W H m k 0) = 0 then 0 else am_shl 1 k), M1, ?_, by omega, ax_Kp e1 hK' rfl, fun c i h1 h2 => (hf1 c i h1 h2).trans (hf c i h1 h2), ?_⟩
    · show am_Ex d 209 5 _ _ _ = _
      rw [aq_209_5]
      simp (disch := first | assumption | omega) only [↓ax_let, ax_gt, ax_gi, Option.bind_some, ax_gbl, ax_gb2, ax_gd, Int.reduceEq, Int.reduceNe, Int.reduceLT, Int.reduceLE, Int.reduceAdd, Int.reduceSub, Int.reduceMul, Int.reduceNeg, reduceIte, ite_true, ite_false, true_and, and_true, false_and, and_false, true_or, or_true, false_or, or_false, not_true_eq_false, not_false_eq_true, and_self, or_self, eq_self, ite_self, decide_true, decide_false, Bool.true_and, Bool.and_true, Bool.and_self, Bool.false_and, Int.sub_zero, Int.add_zero, Int.zero_add, ax_rw, if_pos, if_neg, ax_w32, ax_o_2, kr_2_0, kr_2_1, kr_2_2, kr_2_3, kr_2_4, ax_a_3, ax_a_4, ax_a_5, ax_a_6, ax_a_7, ax_o_39, kr_39_0, kr_39_1, kr_39_2, kr_39_3, ax_a_40, ax_a_41, hT, e1, hr]
      split <;> rfl
    · rw [← hs, ax_fo_s hk]
  · intro s m' ⟨k0, hK', hf, hs⟩
    have hT : am_rd m' 2 5 = T := (hf _ _ (by omega) (by omega)).trans E.1.1
    show ax_ok (am_Ex d 209 5 _ _ _) _
    rw [aq_209_5]
    simp (disch := first | assumption | omega) only [↓ax_let, ax_gt, ax_gi, Option.bind_some, ax_gbl, ax_gb2, ax_gd, Int.reduceEq, Int.reduceNe, Int.reduceLT, Int.reduceLE, Int.reduceAdd, Int.reduceSub, Int.reduceMul, Int.reduceNeg, reduceIte, ite_true, ite_false, true_and, and_true, false_and, and_false, true_or, or_true, false_or, or_false, not_true_eq_false, not_false_eq_true, and_self, or_self, eq_self, ite_self, decide_true, decide_false, Bool.true_and, Bool.and_true, Bool.and_self, Bool.false_and, Int.sub_zero, Int.add_zero, Int.zero_add, ax_rw, if_pos, if_neg, ax_w32, ax_o_2, kr_2_0, kr_2_1, kr_2_2, kr_2_3, kr_2_4, ax_a_3, ax_a_4, ax_a_5, ax_a_6, ax_a_7, ax_o_39, kr_39_0, kr_39_1, kr_39_2, kr_39_3, ax_a_40, ax_a_41, hT, Int.lt_irrefl]
    refine ax_ok_some ⟨?_, hf⟩
    rw [← hs, ax_fo_e (by omega)]
end
