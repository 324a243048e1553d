/-! what the laws say, and deeds, on the model's side -/
def MT (M : am_M) (r k : Int) (c : Option (List (Int × Int))) : Prop := match c with
  | none => ∀ j, 0 ≤ j → j < am_rd M 451 r → am_rd M 452 (24 * r + j) ≠ k
  | some c => ∃ j, 0 ≤ j ∧ j < am_rd M 451 r ∧ am_rd M 452 (24 * r + j) = k ∧ (∀ i, 0 ≤ i → i < am_rd M 451 r → am_rd M 452 (24 * r + i) = k → i = j) ∧ MC M (am_rd M 453 (24 * r + j)) c
def ML (M : am_M) (cd : Int → Option (List (Int × Int))) : Prop :=
  (am_rd M 448 4 = -1 ∧ ∀ k, 0 ≤ k → k < 4 → cd k = none) ∨ ((0 ≤ am_rd M 448 4 ∧ am_rd M 448 4 < 4) ∧ (0 ≤ am_rd M 451 (am_rd M 448 4) ∧ am_rd M 451 (am_rd M 448 4) ≤ 24) ∧ ∀ k, 0 ≤ k → k < 4 → MT M (am_rd M 448 4) k (cd k))
def ME (M : am_M) (T n al : Int) (P W : Int → Int) (cd : Int → Option (List (Int × Int))) : Prop := (am_rd M 448 0 = T ∧ am_rd M 448 1 = n ∧ am_rd M 448 7 = al) ∧ (∀ j, 0 ≤ j → j < 6 → am_rd M 448 (26 + j) = P j) ∧ (∀ j, 0 ≤ j → j < 8 → am_rd M 448 (10 + j) = W j) ∧ ML M cd
theorem MC_same {M M' : am_M} {p : Int} {c : List (Int × Int)} (h : MC M p c) (e : ∀ c i, c = 457 ∨ c = 458 → am_rd M' c i = am_rd M c i) : MC M' p c := by
  obtain ⟨h1, h2, h3, h4⟩ := h
  refine ⟨h1, h2, fun j hj => ?_, by rw [e _ _ (by omega)]; exact h4⟩
  rw [e _ _ (by omega), e _ _ (by omega)]
  exact h3 j hj
theorem MT_same {M M' : am_M} {r k : Int} {c : Option (List (Int × Int))} (h : MT M r k c) (e : ∀ c i, (451 ≤ c ∧ c ≤ 458) → am_rd M' c i = am_rd M c i) : MT M' r k c := by
  unfold MT at h ⊢
  rw [e 451 r (by omega)]
  cases c with
  | none => exact fun j j0 j1 => by rw [e _ _ (by omega)]; exact h j j0 j1
  | some c =>
    obtain ⟨j, h1, h2, h3, h4, h5⟩ := h
    refine ⟨j, h1, h2, by rw [e _ _ (by omega)]; exact h3, fun i i0 i1 => by rw [e _ _ (by omega)]; exact h4 i i0 i1, ?_⟩
    rw [e 453 _ (by omega)]
    exact MC_same h5 fun c i hc => e c i (by omega)
theorem ML_same {M M' : am_M} {cd : Int → Option (List (Int × Int))} (h : ML M cd) (e : ∀ c i, (448 ≤ c ∧ c ≤ 458 ∧ (c = 448 → i < 60)) → am_rd M' c i = am_rd M c i) : ML M' cd := by
  unfold ML at h ⊢
  rw [e 448 4 (by omega), e 451 _ (by omega)]
  rcases h with h | ⟨h1, h2, h3⟩
  · exact Or.inl h
  · exact Or.inr ⟨h1, h2, fun k k0 k1 => MT_same (h3 k k0 k1) fun c i hc => e c i (by omega)⟩
theorem ME_same {M M' : am_M} {T n al : Int} {P W : Int → Int} {cd : Int → Option (List (Int × Int))} (h : ME M T n al P W cd) (e : ∀ c i, (448 ≤ c ∧ c ≤ 458 ∧ (c = 448 → i < 60)) → am_rd M' c i = am_rd M c i) : ME M' T n al P W cd := by
  obtain ⟨⟨h1, h2, h3⟩, h4, h5, h6⟩ := h
  exact ⟨⟨(e _ _ (by omega)).trans h1, (e _ _ (by omega)).trans h2, (e _ _ (by omega)).trans h3⟩, fun j j0 j1 => (e _ _ (by omega)).trans (h4 j j0 j1), fun j j0 j1 => (e _ _ (by omega)).trans (h5 j j0 j1), ML_same h6 e⟩
section
variable {M : am_M} {d : Nat} {T n al m t k : Int} {P W H : Int → Int} {cd : Int → Option (List (Int × Int))}
theorem NF_ME {M' : am_M} (E : ME M T n al P W cd) (F : NF M M') : ME M' T n al P W cd := ME_same E fun c i hc => F c i (by omega) (by omega) (by omega) (by omega)
theorem JF_NF {M' : am_M} (f : ∀ c i, c ≠ 470 → c ≠ 471 → am_rd M' c i = am_rd M c i) : NF M M' := fun c i h1 h2 _ _ => f c i h1 h2
theorem JF_NH {M' : am_M} (C : NH M H) (f : ∀ c i, c ≠ 470 → c ≠ 471 → am_rd M' c i = am_rd M c i) : NH M' H := NH_same C fun c i h => f c i (by omega) (by omega)
/-- where a law's code begins -/
def MOw (M : am_M) (f : Int) (c : Option (List (Int × Int))) : Prop := match c with
  | none => f = -1
  | some c => 0 ≤ f ∧ MC M f c
theorem m_86 (hK : ax_K M) (L : ML M cd) (k0 : 0 ≤ k) (k1 : k < 4) : ∃ f, (∀ d, am_Call d 86 [(2, 447), (0, k)] M = some (f, M)) ∧ MOw M f (cd k) := by
  rcases L with ⟨L1, L2⟩ | ⟨L1, L2, L3⟩
  · refine ⟨-1, fun d => ?_, ?_⟩
    · rw [aq_86, aq_86_5]
      simp (disch := first | assumption | omega) only [ax_gt, ax_gi, Option.bind_some, ax_gbl, ax_gb2, ax_gd, Int.reduceEq, Int.reduceNe, Int.reduceLT, Int.reduceLE, Int.reduceAdd, Int.reduceSub, Int.reduceMul, Int.reduceNeg, reduceIte, ite_true, ite_false, true_and, and_true, false_and, and_false, true_or, or_true, false_or, or_false, not_true_eq_false, not_false_eq_true, and_self, or_self, eq_self, ite_self, decide_true, decide_false, Bool.true_and, Bool.and_true, Bool.and_self, Bool.false_and, Int.sub_zero, Int.add_zero, Int.zero_add, ax_rw, if_pos, if_neg, ax_o_447, ax_a_448, kr_447_0, L1]
    · rw [L2 k k0 k1]; rfl
  · have L4 := L3 k k0 k1
    generalize hr : am_rd M 448 4 = r at *
    generalize hl : am_rd M 451 r = l at *
    have run : ∀ d, am_Call d 86 [(2, 447), (0, k)] M = some (ax_fo (fun j f => if am_rd M 452 (24 * r + j) = k then am_rd M 453 (24 * r + j) else f) (l - 0).toNat 0 (-1), M) := by
      intro d
      rw [aq_86]
      refine ax_loop (X := fun j f => am_Ex d 86 5 [(2, 447), (0, k), (0, f), (0, j), am_N] [] M) (E := fun f => some (f, M)) (n := l) (fun j _ => 0 ≤ j) ?_ ?_ _ _ _ (by omega) (by omega)
      · intro j f j0 j1
        constructor
        · show am_Ex d 86 5 _ _ _ = _
          rw [aq_86_5]
          simp (disch := first | assumption | omega) only [ax_gt, ax_gi, Option.bind_some, ax_gbl, ax_gb2, ax_gd, Int.reduceEq, Int.reduceNe, Int.reduceLT, Int.reduceLE, Int.reduceAdd, Int.reduceSub, Int.reduceMul, Int.reduceNeg, reduceIte, ite_true, ite_false, true_and, and_true, false_and, and_false, true_or, or_true, false_or, or_false, not_true_eq_false, not_false_eq_true, and_self, or_self, eq_self, ite_self, decide_true, decide_false, Bool.true_and, Bool.and_true, Bool.and_self, Bool.false_and, Int.sub_zero, Int.add_zero, Int.zero_add, ax_rw, if_pos, if_neg, ax_w32, ax_let, ax_o_447, ax_a_448, kr_447_0, ax_a_451, kr_447_6, ax_a_452, kr_447_7, ax_a_453, kr_447_8, hr, hl]
          split <;> rfl
        · omega
      · intro f j0
        show am_Ex d 86 5 _ _ _ = _
        rw [aq_86_5]
        simp (disch := first | assumption | omega) only [ax_gt, ax_gi, Option.bind_some, ax_gbl, ax_gb2, ax_gd, Int.reduceEq, Int.reduceNe, Int.reduceLT, Int.reduceLE, Int.reduceAdd, Int.reduceSub, Int.reduceMul, Int.reduceNeg, reduceIte, ite_true, ite_false, true_and, and_true, false_and, and_false, true_or, or_true, false_or, or_false, not_true_eq_false, not_false_eq_true, and_self, or_self, eq_self, ite_self, decide_true, decide_false, Bool.true_and, Bool.and_true, Bool.and_self, Bool.false_and, Int.sub_zero, Int.add_zero, Int.zero_add, ax_rw, if_pos, if_neg, ax_w32, ax_o_447, ax_a_448, kr_447_0, ax_a_451, kr_447_6, hr, hl, Int.lt_irrefl]
    refine ⟨_, run, ?_⟩
    unfold MT at L4
    rw [hl] at L4
    cases hc : cd k with
    | none =>
      rw [hc] at L4
      show ax_fo _ _ _ _ = -1
      refine ax_fo_inv (P := fun _ f => f = -1) _ _ _ (fun j f j0 j1 hf => ?_) rfl
      try dsimp only
      rw [if_neg (L4 j j0 (by omega))]
      exact hf
    | some c =>
      rw [hc] at L4
      obtain ⟨q, q0, q1, q2, q3, q4⟩ := L4
      have key : ax_fo (fun j f => if am_rd M 452 (24 * r + j) = k then am_rd M 453 (24 * r + j) else f) (l - 0).toNat 0 (-1) = am_rd M 453 (24 * r + q) := by
        have := ax_fo_inv (f := fun j f => if am_rd M 452 (24 * r + j) = k then am_rd M 453 (24 * r + j) else f) (P := fun i f => q < i → f = am_rd M 453 (24 * r + q)) (l - 0).toNat 0 (-1) (fun j f j0 j1 hf hq => by
          try dsimp only
          by_cases e : am_rd M 452 (24 * r + j) = k
          · rw [if_pos e, q3 j j0 (by omega) e]
          · rw [if_neg e]
            refine hf ?_
            have : j ≠ q := fun h => e (by rw [h]; exact q2)
            omega) (fun h => by omega)
        exact this (by omega)
      rw [key]
      exact ⟨q4.1, q4⟩
theorem m_90 (hK : ax_K M) (N : NH M H) (hP : ∀ j, 0 ≤ j → j < 6 → am_rd M 448 (26 + j) = P j) (hW : ∀ j, 0 ≤ j → j < 8 → am_rd M 448 (10 + j) = W j) (m0 : 0 ≤ m) (m1 : m < 6) (t0 : 0 ≤ t) (t1 : t < 8) : ax_ok (am_Call d 90 [(2, 447), (0, m), (0, t)] M) (fun _ M' => (∀ j, 0 ≤ j → j < 6 → am_rd M' 470 j = lx_nm P W H m t k j) ∧ ∀ c i, c ≠ 470 → am_rd M' c i = am_rd M c i) := by
  obtain ⟨f1, f2, f3, f4, f5, f6, f7⟩ := N
  have key : am_Call d 90 [(2, 447), (0, m), (0, t)] M = some (0, am_wr (am_wr (am_wr (am_wr (am_wr (am_wr M 470 0 t) 470 1 (P m)) 470 2 (H (8 * m + t))) 470 3 (H (48 + (8 * m + t)))) 470 4 (W t)) 470 5 (H 162)) := by
    rw [aq_90]
    simp (disch := first | assumption | omega) only [ax_gt, ax_gi, Option.bind_some, ax_gbl, ax_gb2, ax_gd, Int.reduceEq, Int.reduceNe, Int.reduceLT, Int.reduceLE, Int.reduceAdd, Int.reduceSub, Int.reduceMul, Int.reduceNeg, reduceIte, ite_true, ite_false, true_and, and_true, false_and, and_false, true_or, or_true, false_or, or_false, not_true_eq_false, not_false_eq_true, and_self, or_self, eq_self, ite_self, decide_true, decide_false, Bool.true_and, Bool.and_true, Bool.and_self, Bool.false_and, Int.sub_zero, Int.add_zero, Int.zero_add, ax_rw, if_pos, if_neg, ax_w32, ax_o_447, ax_a_448, kr_447_0, ax_a_470, kr_447_39, ax_a_472, kr_447_41, ax_a_473, kr_447_42]
    rw [ax_let]
    simp (disch := first | assumption | omega) only [ax_gt, ax_gi, Option.bind_some, ax_gbl, ax_gb2, ax_gd, Int.reduceEq, Int.reduceNe, Int.reduceLT, Int.reduceLE, Int.reduceAdd, Int.reduceSub, Int.reduceMul, Int.reduceNeg, reduceIte, ite_true, ite_false, true_and, and_true, false_and, and_false, true_or, or_true, false_or, or_false, not_true_eq_false, not_false_eq_true, and_self, or_self, eq_self, ite_self, decide_true, decide_false, Bool.true_and, Bool.and_true, Bool.and_self, Bool.false_and, Int.sub_zero, Int.add_zero, Int.zero_add, ax_rw, if_pos, if_neg, ax_w32, ax_o_447, ax_a_448, kr_447_0, ax_a_470, kr_447_39, ax_a_472, kr_447_41, ax_a_473, kr_447_42, hP]
    rw [ax_let]
    simp (disch := first | assumption | omega) only [ax_gt, ax_gi, Option.bind_some, ax_gbl, ax_gb2, ax_gd, Int.reduceEq, Int.reduceNe, Int.reduceLT, Int.reduceLE, Int.reduceAdd, Int.reduceSub, Int.reduceMul, Int.reduceNeg, reduceIte, ite_true, ite_false, true_and, and_true, false_and, and_false, true_or, or_true, false_or, or_false, not_true_eq_false, not_false_eq_true, and_self, or_self, eq_self, ite_self, decide_true, decide_false, Bool.true_and, Bool.and_true, Bool.and_self, Bool.false_and, Int.sub_zero, Int.add_zero, Int.zero_add, ax_rw, if_pos, if_neg, ax_w32, ax_o_447, ax_a_448, kr_447_0, ax_a_470, kr_447_39, ax_a_472, kr_447_41, ax_a_473, kr_447_42, f1]
    rw [ax_let]
    simp (disch := first | assumption | omega) only [ax_gt, ax_gi, Option.bind_some, ax_gbl, ax_gb2, ax_gd, Int.reduceEq, Int.reduceNe, Int.reduceLT, Int.reduceLE, Int.reduceAdd, Int.reduceSub, Int.reduceMul, Int.reduceNeg, reduceIte, ite_true, ite_false, true_and, and_true, false_and, and_false, true_or, or_true, false_or, or_false, not_true_eq_false, not_false_eq_true, and_self, or_self, eq_self, ite_self, decide_true, decide_false, Bool.true_and, Bool.and_true, Bool.and_self, Bool.false_and, Int.sub_zero, Int.add_zero, Int.zero_add, ax_rw, if_pos, if_neg, ax_w32, ax_o_447, ax_a_448, kr_447_0, ax_a_470, kr_447_39, ax_a_472, kr_447_41, ax_a_473, kr_447_42, f2]
    rw [ax_let]
    simp (disch := first | assumption | omega) only [ax_gt, ax_gi, Option.bind_some, ax_gbl, ax_gb2, ax_gd, Int.reduceEq, Int.reduceNe, Int.reduceLT, Int.reduceLE, Int.reduceAdd, Int.reduceSub, Int.reduceMul, Int.reduceNeg, reduceIte, ite_true, ite_false, true_and, and_true, false_and, and_false, true_or, or_true, false_or, or_false, not_true_eq_false, not_false_eq_true, and_self, or_self, eq_self, ite_self, decide_true, decide_false, Bool.true_and, Bool.and_true, Bool.and_self, Bool.false_and, Int.sub_zero, Int.add_zero, Int.zero_add, ax_rw, if_pos, if_neg, ax_w32, ax_o_447, ax_a_448, kr_447_0, ax_a_470, kr_447_39, ax_a_472, kr_447_41, ax_a_473, kr_447_42, hW]
    rw [ax_let]
    simp (disch := first | assumption | omega) only [ax_gt, ax_gi, Option.bind_some, ax_gbl, ax_gb2, ax_gd, Int.reduceEq, Int.reduceNe, Int.reduceLT, Int.reduceLE, Int.reduceAdd, Int.reduceSub, Int.reduceMul, Int.reduceNeg, reduceIte, ite_true, ite_false, true_and, and_true, false_and, and_false, true_or, or_true, false_or, or_false, not_true_eq_false, not_false_eq_true, and_self, or_self, eq_self, ite_self, decide_true, decide_false, Bool.true_and, Bool.and_true, Bool.and_self, Bool.false_and, Int.sub_zero, Int.add_zero, Int.zero_add, ax_rw, if_pos, if_neg, ax_w32, ax_let, ax_o_447, ax_a_448, kr_447_0, ax_a_470, kr_447_39, ax_a_472, kr_447_41, ax_a_473, kr_447_42, f7]
  rw [key]
  refine ax_ok_some ⟨?_, ?_⟩
  · intro j j0 j1
    unfold lx_nm
    have : j = 0 ∨ j = 1 ∨ j = 2 ∨ j = 3 ∨ j = 4 ∨ j = 5 := by omega
    rcases this with rfl | rfl | rfl | rfl | rfl | rfl <;> simp only [ax_rw, Int.reduceEq, Int.reduceNe, Int.reduceLT, Int.reduceLE, Int.reduceAdd, Int.reduceSub, Int.reduceMul, Int.reduceNeg, reduceIte, ite_true, ite_false, true_and, and_true, false_and, and_false, true_or, or_true, false_or, or_false, not_true_eq_false, not_false_eq_true, and_self, or_self, eq_self, ite_self, decide_true, decide_false, Bool.true_and, Bool.and_true, Bool.and_self, Bool.false_and, Int.sub_zero, Int.add_zero, Int.zero_add]
  · intro c i hc
    simp only [ax_rw, hc, false_and, if_false]
theorem lx_may_r {j : Int} (h : lx_may k j = true) : (0 ≤ j ∧ j < 5) ∨ (j = 5 ∧ (k = 1 ∨ k = 2)) ∨ (j = 8 ∧ k = 3) ∨ ((j = 6 ∨ j = 7) ∧ k = 1) := by
  unfold lx_may at h
  simp only [Bool.and_eq_true, Bool.or_eq_true, decide_eq_true_eq] at h
  omega
theorem m_221 (hK : ax_K M) (C : NH M H) (E : ME M T n al P W cd) (S : ES T n al P W cd) (B : HB T H) (m0 : 0 ≤ m) (m2 : m < 6) (t0 : 0 ≤ t) (t1 : t < 8) : ax_ok (am_Call d 221 [(2, 447), (0, m), (0, t)] M) (fun r M' => r = lx_val 0 (cd 0) (lx_nm P W H m t 0) ∧ ∀ c i, c ≠ 470 → c ≠ 471 → am_rd M' c i = am_rd M c i) := by
  obtain ⟨f, e1, hf⟩ := m_86 (k := 0) hK E.2.2.2 (by omega) (by omega)
  obtain ⟨r2, M2, e2, hN, f2⟩ := m_90 (d := d) (k := 0) hK C E.2.1 E.2.2.1 m0 m2 t0 t1
  have hK2 := ax_Kp e2 hK rfl
  have NN := lx_nmN (k := 0) S B m0 m2 t0 t1 (by omega) (by omega)
  have n2 := hN 2 (by omega) (by omega)
  have n3 := hN 3 (by omega) (by omega)
  rw [aq_221]
  simp (disch := first | assumption | omega) only [ax_gt, ax_gi, Option.bind_some, ax_gbl, ax_gb2, ax_gd, Int.reduceEq, Int.reduceNe, Int.reduceLT, Int.reduceLE, Int.reduceAdd, Int.reduceSub, Int.reduceMul, Int.reduceNeg, reduceIte, ite_true, ite_false, true_and, and_true, false_and, and_false, true_or, or_true, false_or, or_false, not_true_eq_false, not_false_eq_true, and_self, or_self, eq_self, ite_self, decide_true, decide_false, Bool.true_and, Bool.and_true, Bool.and_self, Bool.false_and, Int.sub_zero, Int.add_zero, Int.zero_add, ax_rw, if_pos, if_neg, ax_o_447, ax_a_470, kr_447_39, e1, e2]
  unfold lx_val
  cases hc : cd 0 with
  | none =>
    rw [hc] at hf
    have hf : f = -1 := hf
    simp (disch := first | assumption | omega) only [ax_gt, ax_gi, Option.bind_some, ax_gbl, ax_gb2, ax_gd, Int.reduceEq, Int.reduceNe, Int.reduceLT, Int.reduceLE, Int.reduceAdd, Int.reduceSub, Int.reduceMul, Int.reduceNeg, reduceIte, ite_true, ite_false, true_and, and_true, false_and, and_false, true_or, or_true, false_or, or_false, not_true_eq_false, not_false_eq_true, and_self, or_self, eq_self, ite_self, decide_true, decide_false, Bool.true_and, Bool.and_true, Bool.and_self, Bool.false_and, Int.sub_zero, Int.add_zero, Int.zero_add, ax_rw, if_pos, if_neg, ax_o_447, ax_a_470, kr_447_39, hf, n2, n3]
    refine ax_ok_mono (P := fun r M' => r = ax_b (lx_nm P W H m t 0 3 < lx_nm P W H m t 0 2) ∧ M' = M2) ?_ fun r M' h => ⟨h.1, fun c i h1 _ => by rw [h.2]; exact f2 c i h1⟩
    unfold ax_b
    split
    · exact ax_ok_some ⟨by rw [if_neg (by omega)], rfl⟩
    · exact ax_ok_some ⟨by rw [if_pos (by omega)], rfl⟩
  | some c =>
    rw [hc] at hf
    obtain ⟨h0, hM⟩ := hf
    have hok := S.2.2.2.2.2 0 c (by omega) (by omega) hc
    obtain ⟨r3, M3, e3, h3, f3⟩ := m_195 (d := d) hK2 NN hok (fun j hj => by have := lx_may_r hj; exact hN j (by omega) (by omega)) (MC_same hM fun c i hc => f2 c i (by omega))
    have hd := lx_head NN hok
    have hd : 0 ≤ (lx_E (lx_nm P W H m t 0) [] c).headD 0 ∧ (lx_E (lx_nm P W H m t 0) [] c).headD 0 ≤ 1 := hd
    have hF : ∀ c i, c ≠ 470 → c ≠ 471 → am_rd M3 c i = am_rd M c i := fun c i h1 h2 => (f3 c i h2).trans (f2 c i h1)
    simp (disch := first | assumption | omega) only [ax_gt, ax_gi, Option.bind_some, ax_gbl, ax_gb2, ax_gd, Int.reduceEq, Int.reduceNe, Int.reduceLT, Int.reduceLE, Int.reduceAdd, Int.reduceSub, Int.reduceMul, Int.reduceNeg, reduceIte, ite_true, ite_false, true_and, and_true, false_and, and_false, true_or, or_true, false_or, or_false, not_true_eq_false, not_false_eq_true, and_self, or_self, eq_self, ite_self, decide_true, decide_false, Bool.true_and, Bool.and_true, Bool.and_self, Bool.false_and, Int.sub_zero, Int.add_zero, Int.zero_add, ax_rw, if_pos, if_neg, e3, ax_ce]
    rw [← h3] at hd ⊢
    by_cases hz : r3 = 0
    · rw [if_pos hz]; exact ax_ok_some ⟨hz.symm, hF⟩
    · rw [if_neg hz]; exact ax_ok_some ⟨by omega, hF⟩
theorem m_222 (hK : ax_K M) (C : NH M H) (E : ME M T n al P W cd) (S : ES T n al P W cd) (B : HB T H) (m0 : 0 ≤ m) (m2 : m < 6) (t0 : 0 ≤ t) (t1 : t < 8) : ax_ok (am_Call d 222 [(2, 447), (0, m), (0, t)] M) (fun r M' => r = lx_val 1 (cd 1) (lx_nm P W H m t 0) ∧ ∀ c i, c ≠ 470 → c ≠ 471 → am_rd M' c i = am_rd M c i) := by
  obtain ⟨f, e1, hf⟩ := m_86 (k := 1) hK E.2.2.2 (by omega) (by omega)
  obtain ⟨r2, M2, e2, hN, f2⟩ := m_90 (d := d) (k := 0) hK C E.2.1 E.2.2.1 m0 m2 t0 t1
  have hK2 := ax_Kp e2 hK rfl
  have NN := lx_nmN (k := 0) S B m0 m2 t0 t1 (by omega) (by omega)
  have g1 : am_rd M2 475 m = H (144 + m) := (f2 _ _ (by omega)).trans (C.2.2.2.1 m m0 m2)
  have g2 : am_rd M2 476 m = H (150 + m) := (f2 _ _ (by omega)).trans (C.2.2.2.2.1 m m0 m2)
  -- behind both writes
  have tail : ∀ a b : Int, a = am_and (am_shr (H (144 + m)) t) 1 → b = (if H (150 + m) = t then 1 else 0) → ax_ok (if f = -1 then some ((1 : Int), am_wr (am_wr M2 470 6 a) 470 7 b) else (am_Call d 195 [(2, 447), (0, f)] (am_wr (am_wr M2 470 6 a) 470 7 b)).bind fun r => (am_Call d 87 [(1, r.1), (0, -9), (0, 99)] r.2).bind fun r => some (r.1, r.2)) (fun r M' => r = lx_val 1 (cd 1) (lx_nm P W H m t 0) ∧ ∀ c i, c ≠ 470 → c ≠ 471 → am_rd M' c i = am_rd M c i) := by
    intro a b ha hb
    unfold lx_val
    cases hc : cd 1 with
    | none =>
      rw [hc] at hf
      have hf : f = -1 := hf
      rw [if_pos hf]
      exact ax_ok_some ⟨by simp only [Int.reduceEq, Int.reduceNe, Int.reduceLT, Int.reduceLE, Int.reduceAdd, Int.reduceSub, Int.reduceMul, Int.reduceNeg, reduceIte, ite_true, ite_false, true_and, and_true, false_and, and_false, true_or, or_true, false_or, or_false, not_true_eq_false, not_false_eq_true, and_self, or_self, eq_self, ite_self, decide_true, decide_false, Bool.true_and, Bool.and_true, Bool.and_self, Bool.false_and, Int.sub_zero, Int.add_zero, Int.zero_add], fun c i h1 _ => by rw [ax_wc h1, ax_wc h1]; exact f2 c i h1⟩
    | some c =>
      rw [hc] at hf
      obtain ⟨h0, hM⟩ := hf
      rw [if_neg (by omega)]
      have hok := S.2.2.2.2.2 1 c (by omega) (by omega) hc
      have hK3 : ax_K (am_wr (am_wr M2 470 6 a) 470 7 b) := ax_Kw (ax_Kw hK2 rfl) rfl
      obtain ⟨r3, M3, e3, h3, f3⟩ := m_195 (d := d) hK3 NN hok (fun j hj => by
        have h := lx_may_r hj
        by_cases j6 : j = 6
        · subst j6; rw [ax_wi (by omega), ax_ws, ha]; unfold lx_nm; simp only [Int.reduceEq, Int.reduceNe, Int.reduceLT, Int.reduceLE, Int.reduceAdd, Int.reduceSub, Int.reduceMul, Int.reduceNeg, reduceIte, ite_true, ite_false, true_and, and_true, false_and, and_false, true_or, or_true, false_or, or_false, not_true_eq_false, not_false_eq_true, and_self, or_self, eq_self, ite_self, decide_true, decide_false, Bool.true_and, Bool.and_true, Bool.and_self, Bool.false_and, Int.sub_zero, Int.add_zero, Int.zero_add]
        by_cases j7 : j = 7
        · subst j7; rw [ax_ws, hb]; unfold lx_nm; simp only [Int.reduceEq, Int.reduceNe, Int.reduceLT, Int.reduceLE, Int.reduceAdd, Int.reduceSub, Int.reduceMul, Int.reduceNeg, reduceIte, ite_true, ite_false, true_and, and_true, false_and, and_false, true_or, or_true, false_or, or_false, not_true_eq_false, not_false_eq_true, and_self, or_self, eq_self, ite_self, decide_true, decide_false, Bool.true_and, Bool.and_true, Bool.and_self, Bool.false_and, Int.sub_zero, Int.add_zero, Int.zero_add]
        · rw [ax_wi j7, ax_wi j6]; exact hN j (by omega) (by omega)) (MC_same hM fun c i hc => by rw [ax_wc (by omega), ax_wc (by omega)]; exact f2 c i (by omega))
      have hd := lx_head NN hok
      have hd : -1000000 ≤ (lx_E (lx_nm P W H m t 0) [] c).headD 0 ∧ (lx_E (lx_nm P W H m t 0) [] c).headD 0 ≤ 1000000 := hd
      rw [e3]
      simp only [Option.bind_some]
      rw [m_87 (by omega) (by omega)]
      simp only [Option.bind_some, Int.reduceEq, Int.reduceNe, Int.reduceLT, Int.reduceLE, Int.reduceAdd, Int.reduceSub, Int.reduceMul, Int.reduceNeg, reduceIte, ite_true, ite_false, true_and, and_true, false_and, and_false, true_or, or_true, false_or, or_false, not_true_eq_false, not_false_eq_true, and_self, or_self, eq_self, ite_self, decide_true, decide_false, Bool.true_and, Bool.and_true, Bool.and_self, Bool.false_and, Int.sub_zero, Int.add_zero, Int.zero_add]
      exact ax_ok_some ⟨by rw [h3]; rfl, fun c i h1 h2 => by rw [f3 c i h2, ax_wc h1, ax_wc h1]; exact f2 c i h1⟩
  rw [aq_222]
  simp (disch := first | assumption | omega) only [ax_gt, ax_gi, Option.bind_some, ax_gbl, ax_gb2, ax_gd, Int.reduceEq, Int.reduceNe, Int.reduceLT, Int.reduceLE, Int.reduceAdd, Int.reduceSub, Int.reduceMul, Int.reduceNeg, reduceIte, ite_true, ite_false, true_and, and_true, false_and, and_false, true_or, or_true, false_or, or_false, not_true_eq_false, not_false_eq_true, and_self, or_self, eq_self, ite_self, decide_true, decide_false, Bool.true_and, Bool.and_true, Bool.and_self, Bool.false_and, Int.sub_zero, Int.add_zero, Int.zero_add, ax_rw, if_pos, if_neg, ax_o_447, ax_a_470, kr_447_39, ax_a_475, kr_447_44, e1, e2, g1, m_65, ax_b0]
  by_cases hs : am_and (am_shr (H (144 + m)) t) 1 = 1
  · rw [if_neg (by simp only [hs, Int.reduceEq, Int.reduceNe, Int.reduceLT, Int.reduceLE, Int.reduceAdd, Int.reduceSub, Int.reduceMul, Int.reduceNeg, reduceIte, ite_true, ite_false, true_and, and_true, false_and, and_false, true_or, or_true, false_or, or_false, not_true_eq_false, not_false_eq_true, and_self, or_self, eq_self, ite_self, decide_true, decide_false, Bool.true_and, Bool.and_true, Bool.and_self, Bool.false_and, Int.sub_zero, Int.add_zero, Int.zero_add])]
    rw [ax_let]
    by_cases ht : H (150 + m) = t
    · simp (disch := first | assumption | omega) only [ax_gt, ax_gi, Option.bind_some, ax_gbl, ax_gb2, ax_gd, Int.reduceEq, Int.reduceNe, Int.reduceLT, Int.reduceLE, Int.reduceAdd, Int.reduceSub, Int.reduceMul, Int.reduceNeg, reduceIte, ite_true, ite_false, true_and, and_true, false_and, and_false, true_or, or_true, false_or, or_false, not_true_eq_false, not_false_eq_true, and_self, or_self, eq_self, ite_self, decide_true, decide_false, Bool.true_and, Bool.and_true, Bool.and_self, Bool.false_and, Int.sub_zero, Int.add_zero, Int.zero_add, ax_rw, if_pos, if_neg, ax_o_447, ax_a_470, kr_447_39, ax_a_476, kr_447_45, g2, ht]
      rw [ax_let]
      exact tail 1 1 hs.symm (if_pos ht).symm
    · simp (disch := first | assumption | omega) only [ax_gt, ax_gi, Option.bind_some, ax_gbl, ax_gb2, ax_gd, Int.reduceEq, Int.reduceNe, Int.reduceLT, Int.reduceLE, Int.reduceAdd, Int.reduceSub, Int.reduceMul, Int.reduceNeg, reduceIte, ite_true, ite_false, true_and, and_true, false_and, and_false, true_or, or_true, false_or, or_false, not_true_eq_false, not_false_eq_true, and_self, or_self, eq_self, ite_self, decide_true, decide_false, Bool.true_and, Bool.and_true, Bool.and_self, Bool.false_and, Int.sub_zero, Int.add_zero, Int.zero_add, ax_rw, if_pos, if_neg, ax_o_447, ax_a_470, kr_447_39, ax_a_476, kr_447_45, g2, ht]
      rw [ax_let]
      exact tail 1 0 hs.symm (if_neg ht).symm
  · have h0 : am_and (am_shr (H (144 + m)) t) 1 = 0 := by rw [ax_a0]; exact hs
    rw [if_pos hs]
    rw [ax_let]
    by_cases ht : H (150 + m) = t
    · simp (disch := first | assumption | omega) only [ax_gt, ax_gi, Option.bind_some, ax_gbl, ax_gb2, ax_gd, Int.reduceEq, Int.reduceNe, Int.reduceLT, Int.reduceLE, Int.reduceAdd, Int.reduceSub, Int.reduceMul, Int.reduceNeg, reduceIte, ite_true, ite_false, true_and, and_true, false_and, and_false, true_or, or_true, false_or, or_false, not_true_eq_false, not_false_eq_true, and_self, or_self, eq_self, ite_self, decide_true, decide_false, Bool.true_and, Bool.and_true, Bool.and_self, Bool.false_and, Int.sub_zero, Int.add_zero, Int.zero_add, ax_rw, if_pos, if_neg, ax_o_447, ax_a_470, kr_447_39, ax_a_476, kr_447_45, g2, ht]
      rw [ax_let]
      exact tail 0 1 h0.symm (if_pos ht).symm
    · simp (disch := first | assumption | omega) only [ax_gt, ax_gi, Option.bind_some, ax_gbl, ax_gb2, ax_gd, Int.reduceEq, Int.reduceNe, Int.reduceLT, Int.reduceLE, Int.reduceAdd, Int.reduceSub, Int.reduceMul, Int.reduceNeg, reduceIte, ite_true, ite_false, true_and, and_true, false_and, and_false, true_or, or_true, false_or, or_false, not_true_eq_false, not_false_eq_true, and_self, or_self, eq_self, ite_self, decide_true, decide_false, Bool.true_and, Bool.and_true, Bool.and_self, Bool.false_and, Int.sub_zero, Int.add_zero, Int.zero_add, ax_rw, if_pos, if_neg, ax_o_447, ax_a_470, kr_447_39, ax_a_476, kr_447_45, g2, ht]
      rw [ax_let]
      exact tail 0 0 h0.symm (if_neg ht).symm
theorem m_223 (hK : ax_K M) (C : NH M H) (E : ME M T n al P W cd) (S : ES T n al P W cd) (B : HB T H) (m0 : 0 ≤ m) (m2 : m < 6) (t0 : 0 ≤ t) (t1 : t < 8) : ax_ok (am_Call d 223 [(2, 447), (0, m), (0, t)] M) (fun r M' => r = lx_val 2 (cd 2) (lx_nm P W H m t 0) ∧ ∀ c i, c ≠ 470 → c ≠ 471 → am_rd M' c i = am_rd M c i) := by
  obtain ⟨f, e1, hf⟩ := m_86 (k := 2) hK E.2.2.2 (by omega) (by omega)
  obtain ⟨r2, M2, e2, hN, f2⟩ := m_90 (d := d) (k := 0) hK C E.2.1 E.2.2.1 m0 m2 t0 t1
  have hK2 := ax_Kp e2 hK rfl
  have NN := lx_nmN (k := 0) S B m0 m2 t0 t1 (by omega) (by omega)
  rw [aq_223]
  simp (disch := first | assumption | omega) only [ax_gt, ax_gi, Option.bind_some, ax_gbl, ax_gb2, ax_gd, Int.reduceEq, Int.reduceNe, Int.reduceLT, Int.reduceLE, Int.reduceAdd, Int.reduceSub, Int.reduceMul, Int.reduceNeg, reduceIte, ite_true, ite_false, true_and, and_true, false_and, and_false, true_or, or_true, false_or, or_false, not_true_eq_false, not_false_eq_true, and_self, or_self, eq_self, ite_self, decide_true, decide_false, Bool.true_and, Bool.and_true, Bool.and_self, Bool.false_and, Int.sub_zero, Int.add_zero, Int.zero_add, ax_rw, if_pos, if_neg, ax_o_447, ax_a_470, kr_447_39, e1, e2]
  unfold lx_val
  cases hc : cd 2 with
  | none =>
    rw [hc] at hf
    have hf : f = -1 := hf
    rw [if_pos hf]
    exact ax_ok_some ⟨by simp only [Int.reduceEq, Int.reduceNe, Int.reduceLT, Int.reduceLE, Int.reduceAdd, Int.reduceSub, Int.reduceMul, Int.reduceNeg, reduceIte, ite_true, ite_false, true_and, and_true, false_and, and_false, true_or, or_true, false_or, or_false, not_true_eq_false, not_false_eq_true, and_self, or_self, eq_self, ite_self, decide_true, decide_false, Bool.true_and, Bool.and_true, Bool.and_self, Bool.false_and, Int.sub_zero, Int.add_zero, Int.zero_add], fun c i h1 _ => f2 c i h1⟩
  | some c =>
    rw [hc] at hf
    obtain ⟨h0, hM⟩ := hf
    rw [if_neg (by omega)]
    have hok := S.2.2.2.2.2 2 c (by omega) (by omega) hc
    obtain ⟨r3, M3, e3, h3, f3⟩ := m_195 (d := d) hK2 NN hok (fun j hj => by have := lx_may_r hj; exact hN j (by omega) (by omega)) (MC_same hM fun c i hc => f2 c i (by omega))
    have hd := lx_head NN hok
    have hd : -1000000 ≤ (lx_E (lx_nm P W H m t 0) [] c).headD 0 ∧ (lx_E (lx_nm P W H m t 0) [] c).headD 0 ≤ 1000000 := hd
    rw [e3]
    simp only [Option.bind_some]
    rw [m_87 (by omega) (by omega)]
    simp only [Option.bind_some, Int.reduceEq, Int.reduceNe, Int.reduceLT, Int.reduceLE, Int.reduceAdd, Int.reduceSub, Int.reduceMul, Int.reduceNeg, reduceIte, ite_true, ite_false, true_and, and_true, false_and, and_false, true_or, or_true, false_or, or_false, not_true_eq_false, not_false_eq_true, and_self, or_self, eq_self, ite_self, decide_true, decide_false, Bool.true_and, Bool.and_true, Bool.and_self, Bool.false_and, Int.sub_zero, Int.add_zero, Int.zero_add]
    exact ax_ok_some ⟨by rw [h3]; rfl, fun c i h1 h2 => (f3 c i h2).trans (f2 c i h1)⟩
theorem m_224 (hK : ax_K M) (C : NH M H) (E : ME M T n al P W cd) (S : ES T n al P W cd) (B : HB T H) (m0 : 0 ≤ m) (m2 : m < 6) (t0 : 0 ≤ t) (t1 : t < 8) (k0 : 1 ≤ k) (k1 : k ≤ 99) : ax_ok (am_Call d 224 [(2, 447), (0, m), (0, t), (0, k)] M) (fun r M' => r = lx_val 3 (cd 3) (lx_nm P W H m t k) ∧ ∀ c i, c ≠ 470 → c ≠ 471 → am_rd M' c i = am_rd M c i) := by
  obtain ⟨f, e1, hf⟩ := m_86 (k := 3) hK E.2.2.2 (by omega) (by omega)
  obtain ⟨r2, M2, e2, hN, f2⟩ := m_90 (d := d) (k := k) hK C E.2.1 E.2.2.1 m0 m2 t0 t1
  have hK2 := ax_Kp e2 hK rfl
  have NN := lx_nmN (k := k) S B m0 m2 t0 t1 (by omega) (by omega)
  have h8 : lx_nm P W H m t k 8 = k := by unfold lx_nm; simp only [Int.reduceEq, Int.reduceNe, Int.reduceLT, Int.reduceLE, Int.reduceAdd, Int.reduceSub, Int.reduceMul, Int.reduceNeg, reduceIte, ite_true, ite_false, true_and, and_true, false_and, and_false, true_or, or_true, false_or, or_false, not_true_eq_false, not_false_eq_true, and_self, or_self, eq_self, ite_self, decide_true, decide_false, Bool.true_and, Bool.and_true, Bool.and_self, Bool.false_and, Int.sub_zero, Int.add_zero, Int.zero_add]
  have w2 : am_div k 2 = k / 2 := by rw [ax_div (by omega) (by omega) (by omega) (by omega), Int.tdiv_eq_ediv_of_nonneg (by omega)]
  rw [aq_224]
  simp (disch := first | assumption | omega) only [ax_gt, ax_gi, Option.bind_some, ax_gbl, ax_gb2, ax_gd, Int.reduceEq, Int.reduceNe, Int.reduceLT, Int.reduceLE, Int.reduceAdd, Int.reduceSub, Int.reduceMul, Int.reduceNeg, reduceIte, ite_true, ite_false, true_and, and_true, false_and, and_false, true_or, or_true, false_or, or_false, not_true_eq_false, not_false_eq_true, and_self, or_self, eq_self, ite_self, decide_true, decide_false, Bool.true_and, Bool.and_true, Bool.and_self, Bool.false_and, Int.sub_zero, Int.add_zero, Int.zero_add, ax_rw, if_pos, if_neg, ax_o_447, ax_a_470, kr_447_39, e1, e2]
  rw [ax_let]
  unfold lx_val
  cases hc : cd 3 with
  | none =>
    rw [hc] at hf
    have hf : f = -1 := hf
    rw [if_pos hf]
    refine ax_ok_some ⟨by simp only [Int.reduceEq, Int.reduceNe, Int.reduceLT, Int.reduceLE, Int.reduceAdd, Int.reduceSub, Int.reduceMul, Int.reduceNeg, reduceIte, ite_true, ite_false, true_and, and_true, false_and, and_false, true_or, or_true, false_or, or_false, not_true_eq_false, not_false_eq_true, and_self, or_self, eq_self, ite_self, decide_true, decide_false, Bool.true_and, Bool.and_true, Bool.and_self, Bool.false_and, Int.sub_zero, Int.add_zero, Int.zero_add, h8, w2], fun c i h1 _ => (ax_wc h1).trans (f2 c i h1)⟩
  | some c =>
    rw [hc] at hf
    obtain ⟨h0, hM⟩ := hf
    rw [if_neg (by omega)]
    have hok := S.2.2.2.2.2 3 c (by omega) (by omega) hc
    have hK3 : ax_K (am_wr M2 470 8 k) := ax_Kw hK2 rfl
    obtain ⟨r3, M3, e3, h3, f3⟩ := m_195 (d := d) hK3 NN hok (fun j hj => by
      have h := lx_may_r hj
      by_cases j8 : j = 8
      · subst j8; rw [ax_ws, h8]
      · rw [ax_wi j8]; exact hN j (by omega) (by omega)) (MC_same hM fun c i hc => by rw [ax_wc (by omega)]; exact f2 c i (by omega))
    have hd := lx_head NN hok
    have hd : -1000000 ≤ (lx_E (lx_nm P W H m t k) [] c).headD 0 ∧ (lx_E (lx_nm P W H m t k) [] c).headD 0 ≤ 1000000 := hd
    rw [e3]
    simp only [Option.bind_some]
    rw [m_87 (by omega) (by omega)]
    simp only [Option.bind_some, Int.reduceEq, Int.reduceNe, Int.reduceLT, Int.reduceLE, Int.reduceAdd, Int.reduceSub, Int.reduceMul, Int.reduceNeg, reduceIte, ite_true, ite_false, true_and, and_true, false_and, and_false, true_or, or_true, false_or, or_false, not_true_eq_false, not_false_eq_true, and_self, or_self, eq_self, ite_self, decide_true, decide_false, Bool.true_and, Bool.and_true, Bool.and_self, Bool.false_and, Int.sub_zero, Int.add_zero, Int.zero_add]
    exact ax_ok_some ⟨by rw [h3]; rfl, fun c i h1 h2 => by rw [f3 c i h2, ax_wc h1]; exact f2 c i h1⟩
theorem m_251 (hK : ax_K M) (C : NH M H) (E : ME M T n al P W cd) (S : ES T n al P W cd) (B : HB T H) (m0 : 0 ≤ m) (m2 : m < 6) : ax_ok (am_Call d 251 [(2, 447), (0, m)] M) (fun r M' => r = hHad T P W cd H m ∧ ∀ c i, c ≠ 470 → c ≠ 471 → am_rd M' c i = am_rd M c i) := by
  have hS := S.1
  rw [aq_251]
  refine ax_loopM (σ := Int) (X := fun k s m' => am_Ex d 251 5 [(2, 447), (0, m), (0, s), (0, k)] [] m') (n := T) (fun k s m' => 0 ≤ k ∧ ax_K m' ∧ (∀ c i, c ≠ 470 → c ≠ 471 → am_rd m' c i = am_rd M c i) ∧ ax_fo (fun t s => am_or s (if lx_val 0 (cd 0) (lx_nm P W H m t 0) = 0 then 0 else am_shl 1 t)) (T - k).toNat k s = hHad T P W cd H m) ?_ ?_ (T - 0).toNat 0 0 M (by omega) ⟨by omega, hK, fun _ _ _ _ => rfl, rfl⟩
  · intro k s m' ⟨k0, hK', hf, hs⟩ hk
    have C' : NH m' H := JF_NH C hf
    have E' : ME m' T n al P W cd := NF_ME E (JF_NF hf)
    obtain ⟨r, M1, e1, hr, hf1⟩ := m_221 (d := d) (t := k) hK' C' E' S B m0 m2 k0 (by omega)
    refine ⟨am_or s (if lx_val 0 (cd 0) (lx_nm P W H m k 0) = 0 then 0 else am_shl 1 k), M1, ?_, by omega, ax_Kp e1 hK' rfl, fun c i h1 h2 => (hf1 c i h1 h2).trans (hf c i h1 h2), ?_⟩
    · show am_Ex d 251 5 _ _ _ = _
      rw [aq_251_5]
      simp (disch := first | assumption | omega) only [ax_gt, ax_gi, Option.bind_some, ax_gbl, ax_gb2, ax_gd, Int.reduceEq, Int.reduceNe, Int.reduceLT, Int.reduceLE, Int.reduceAdd, Int.reduceSub, Int.reduceMul, Int.reduceNeg, reduceIte, ite_true, ite_false, true_and, and_true, false_and, and_false, true_or, or_true, false_or, or_false, not_true_eq_false, not_false_eq_true, and_self, or_self, eq_self, ite_self, decide_true, decide_false, Bool.true_and, Bool.and_true, Bool.and_self, Bool.false_and, Int.sub_zero, Int.add_zero, Int.zero_add, ax_rw, if_pos, if_neg, ax_w32, ax_let, ax_o_447, ax_a_448, kr_447_0, E'.1.1, e1, hr]
      split <;> rfl
    · rw [← hs, ax_fo_s hk]
  · intro s m' ⟨k0, hK', hf, hs⟩
    have hT : am_rd m' 448 0 = T := (hf _ _ (by omega) (by omega)).trans E.1.1
    show ax_ok (am_Ex d 251 5 _ _ _) _
    rw [aq_251_5]
    simp (disch := first | assumption | omega) only [ax_gt, ax_gi, Option.bind_some, ax_gbl, ax_gb2, ax_gd, Int.reduceEq, Int.reduceNe, Int.reduceLT, Int.reduceLE, Int.reduceAdd, Int.reduceSub, Int.reduceMul, Int.reduceNeg, reduceIte, ite_true, ite_false, true_and, and_true, false_and, and_false, true_or, or_true, false_or, or_false, not_true_eq_false, not_false_eq_true, and_self, or_self, eq_self, ite_self, decide_true, decide_false, Bool.true_and, Bool.and_true, Bool.and_self, Bool.false_and, Int.sub_zero, Int.add_zero, Int.zero_add, ax_rw, if_pos, if_neg, ax_w32, ax_o_447, ax_a_448, kr_447_0, hT, Int.lt_irrefl]
    refine ax_ok_some ⟨?_, hf⟩
    rw [← hs, ax_fo_e (by omega)]
end
