/-! STEPS on the developers' side -/
theorem ax_shape_ge {n : Nat} (h : 484 ≤ n) : (am_shape n).1 = 99 := by
  unfold am_shape
  by_cases h2 : n / 16 = 30
  · rw [h2, show am_shapes.getD 30 [] = [(20, 8), (20, 6), (20, 6), (20, 6)] from rfl]
    rw [List.getD_eq_getElem?_getD, List.getElem?_eq_none (by show 4 ≤ n % 16; omega)]
    rfl
  · rw [List.getD_eq_getElem?_getD (l := am_shapes), List.getElem?_eq_none (by show 31 ≤ n / 16; omega)]
    rfl
theorem hn_B : ((List.range 484).all fun n => !((am_shape n).1 == 3) || ((am_shape (n + 1) == (20, 48)) && (am_shape (n + 2) == (20, 48)) && (am_shape (n + 3) == (20, 48)) && (am_shape (n + 4) == (20, 6)) && (am_shape (n + 5) == (20, 6)))) = true := by decide +kernel
/-- the cell of a hands -/
def hn (h : Int) : Prop := am_kd h = 3
theorem hn_0 {h : Int} (H : hn h) : 0 ≤ h := by
  unfold hn am_kd at H
  split at H
  · assumption
  · cases H
theorem hn_s {h : Int} (H : hn h) : (am_shape (h.toNat + 1) = (20, 48) ∧ am_shape (h.toNat + 2) = (20, 48) ∧ am_shape (h.toNat + 3) = (20, 48)) ∧ am_shape (h.toNat + 4) = (20, 6) ∧ am_shape (h.toNat + 5) = (20, 6) := by
  have h0 := hn_0 H
  unfold hn am_kd at H
  rw [if_pos h0] at H
  have h1 : h.toNat < 484 := by
    refine Nat.lt_of_not_le fun hge => ?_
    rw [ax_shape_ge hge] at H
    cases H
  have h2 := List.all_eq_true.mp hn_B h.toNat (List.mem_range.mpr h1)
  rw [H] at h2
  simp only [beq_self_eq_true, Bool.not_true, Bool.false_or, Bool.and_eq_true, beq_iff_eq] at h2
  obtain ⟨⟨⟨⟨a, b⟩, c⟩, d⟩, e⟩ := h2
  exact ⟨⟨a, b, c⟩, d, e⟩
theorem hn_kd {h i : Int} {k n : Nat} (h0 : 0 ≤ h) (i0 : 0 ≤ i) (e : am_shape (h.toNat + i.toNat) = (k, n)) : am_kd (h + i) = k ∧ am_ln (h + i) = (n : Int) := by
  have h1 : (h + i).toNat = h.toNat + i.toNat := by omega
  unfold am_kd am_ln
  rw [if_pos (by omega), if_pos (by omega), h1, e]
  exact ⟨rfl, rfl⟩
theorem hn_a {h : Int} (H : hn h) : (am_kd (h + 1) = 20 ∧ am_ln (h + 1) = 48) ∧ (am_kd (h + 2) = 20 ∧ am_ln (h + 2) = 48) ∧ (am_kd (h + 3) = 20 ∧ am_ln (h + 3) = 48) ∧ (am_kd (h + 4) = 20 ∧ am_ln (h + 4) = 6) ∧ (am_kd (h + 5) = 20 ∧ am_ln (h + 5) = 6) := by
  obtain ⟨⟨a, b, c⟩, d, e⟩ := hn_s H
  have h0 := hn_0 H
  exact ⟨hn_kd h0 (by omega) a, hn_kd h0 (by omega) b, hn_kd h0 (by omega) c, hn_kd h0 (by omega) d, hn_kd h0 (by omega) e⟩
theorem hn_ne {h h2 : Int} (A : hn h) (B : hn h2) (e : h ≠ h2) : h + 5 < h2 ∨ h2 + 5 < h := by
  have a := hn_a A
  have b := hn_a B
  have a0 : am_kd h = 3 := A
  have b0 : am_kd h2 = 3 := B
  have key : ∀ x y : Int, am_kd x = 20 → am_kd y = 3 → x ≠ y := fun x y h1 h2 h3 => by rw [h3, h2] at h1; cases h1
  have := key _ _ a.1.1 b0
  have := key _ _ a.2.1.1 b0
  have := key _ _ a.2.2.1.1 b0
  have := key _ _ a.2.2.2.1.1 b0
  have := key _ _ a.2.2.2.2.1 b0
  have := key _ _ b.1.1 a0
  have := key _ _ b.2.1.1 a0
  have := key _ _ b.2.2.1.1 a0
  have := key _ _ b.2.2.2.1.1 a0
  have := key _ _ b.2.2.2.2.1 a0
  omega
theorem hn_r {M : am_M} {h i : Int} (hK : ax_K M) (A : hn h) (i0 : 0 ≤ i) (i1 : i < 5) : am_rd M h i = h + 1 + i := by
  have a0 : am_kd h = 3 := A
  have h1 := hK.2 h i (by rw [a0]; show (decide (0 ≤ i) && decide (i < 5)) = true; rw [decide_eq_true i0, decide_eq_true i1]; rfl)
  rw [h1]
  unfold ax_rv
  rw [a0]
  rfl
/-- M' has at h what M has at h2 -/
def hCp (M M' : am_M) (h h2 : Int) : Prop := (∀ j, 0 ≤ j → j < 48 → am_rd M' (h + 1) j = am_rd M (h2 + 1) j ∧ am_rd M' (h + 2) j = am_rd M (h2 + 2) j ∧ am_rd M' (h + 3) j = am_rd M (h2 + 3) j) ∧ (∀ j, 0 ≤ j → j < 6 → am_rd M' (h + 4) j = am_rd M (h2 + 4) j ∧ am_rd M' (h + 5) j = am_rd M (h2 + 5) j) ∧ am_rd M' h 5 = am_rd M h2 5 ∧ am_rd M' h 6 = am_rd M h2 6 ∧ am_rd M' h 7 = am_rd M h2 7
theorem hCp_CH {M M' : am_M} {h h2 n : Int} {H : Int → Int} (c : hCp M M' h h2) (C : CH M h2 n H) : CH M' h n H := by
  obtain ⟨r1, r2, r3, r4, r5, r6, r7, r8, r9⟩ := C
  obtain ⟨c1, c2, c3, c4, c5⟩ := c
  exact ⟨fun j j0 j1 => (c1 j j0 j1).1.trans (r1 j j0 j1), fun j j0 j1 => (c1 j j0 j1).2.1.trans (r2 j j0 j1), fun j j0 j1 => (c1 j j0 j1).2.2.trans (r3 j j0 j1), fun j j0 j1 => (c2 j j0 j1).1.trans (r4 j j0 j1), fun j j0 j1 => (c2 j j0 j1).2.trans (r5 j j0 j1), by rw [c3]; exact r6, fun j j0 j1 => by rw [c3]; exact r7 j j0 j1, c4.trans r8, c5.trans r9⟩
theorem hCp_pre {M0 M M' : am_M} {h h2 : Int} (c : hCp M M' h h2) (e : ∀ c i, h2 ≤ c → c ≤ h2 + 5 → am_rd M c i = am_rd M0 c i) : hCp M0 M' h h2 := by
  obtain ⟨c1, c2, c3, c4, c5⟩ := c
  exact ⟨fun j j0 j1 => ⟨(c1 j j0 j1).1.trans (e _ _ (by omega) (by omega)), (c1 j j0 j1).2.1.trans (e _ _ (by omega) (by omega)), (c1 j j0 j1).2.2.trans (e _ _ (by omega) (by omega))⟩, fun j j0 j1 => ⟨(c2 j j0 j1).1.trans (e _ _ (by omega) (by omega)), (c2 j j0 j1).2.trans (e _ _ (by omega) (by omega))⟩, c3.trans (e _ _ (by omega) (by omega)), c4.trans (e _ _ (by omega) (by omega)), c5.trans (e _ _ (by omega) (by omega))⟩
theorem hCp_post {M M' M2 : am_M} {h h2 : Int} (c : hCp M M' h h2) (e : ∀ c i, h ≤ c → c ≤ h + 5 → am_rd M2 c i = am_rd M' c i) : hCp M M2 h h2 := by
  obtain ⟨c1, c2, c3, c4, c5⟩ := c
  exact ⟨fun j j0 j1 => ⟨(e _ _ (by omega) (by omega)).trans (c1 j j0 j1).1, (e _ _ (by omega) (by omega)).trans (c1 j j0 j1).2.1, (e _ _ (by omega) (by omega)).trans (c1 j j0 j1).2.2⟩, fun j j0 j1 => ⟨(e _ _ (by omega) (by omega)).trans (c2 j j0 j1).1, (e _ _ (by omega) (by omega)).trans (c2 j j0 j1).2⟩, (e _ _ (by omega) (by omega)).trans c3, (e _ _ (by omega) (by omega)).trans c4, (e _ _ (by omega) (by omega)).trans c5⟩
section
variable {M : am_M} {d : Nat} {h h2 n T al m t k : Int} {H : Int → Int}
theorem ax_gcp48 {α : Type} {s t : Int} {k : Option α} (h1 : am_kd s = 20) (h2 : am_kd t = 20) (e1 : am_ln s = 48) (e2 : am_ln t = 48) : am_g (am_ob s 20 && am_ob t 20 && (decide (0 ≤ 48) && (decide (0 ≤ 0) && (decide (0 ≤ 0) && (decide (0 + 48 ≤ am_ln s) && decide (0 + 48 ≤ am_ln t)))))) k = k := by
  have a : am_ob s 20 = true := by unfold am_ob; rw [h1]; rfl
  have b : am_ob t 20 = true := by unfold am_ob; rw [h2]; rfl
  rw [a, b, e1, e2]
  rfl
theorem ax_gcp6 {α : Type} {s t : Int} {k : Option α} (h1 : am_kd s = 20) (h2 : am_kd t = 20) (e1 : am_ln s = 6) (e2 : am_ln t = 6) : am_g (am_ob s 20 && am_ob t 20 && (decide (0 ≤ 6) && (decide (0 ≤ 0) && (decide (0 ≤ 0) && (decide (0 + 6 ≤ am_ln s) && decide (0 + 6 ≤ am_ln t)))))) k = k := by
  have a : am_ob s 20 = true := by unfold am_ob; rw [h1]; rfl
  have b : am_ob t 20 = true := by unfold am_ob; rw [h2]; rfl
  rw [a, b, e1, e2]
  rfl
theorem ax_rwn {M : am_M} {c i v c' i' : Int} (h : ¬ (c' = c ∧ i' = i)) : am_rd (am_wr M c i v) c' i' = am_rd M c' i' := if_neg h
theorem ax_rwp {M : am_M} {c i v : Int} : am_rd (am_wr M c i v) c i = v := ax_ws
theorem ax_rcn {M : am_M} {s sp t dp n c i : Int} (h : ¬ (c = t ∧ dp ≤ i ∧ i < dp + n)) : am_rd (am_cpy M s sp t dp n) c i = am_rd M c i := if_neg h
theorem ax_rcp {M : am_M} {s sp t dp n i : Int} (h : dp ≤ i ∧ i < dp + n) : am_rd (am_cpy M s sp t dp n) t i = am_rd M s (sp + (i - dp)) := if_pos ⟨rfl, h⟩
theorem ax_Kcp {M : am_M} {s sp d dp n : Int} (h : ax_K M) (hn : am_kd d = 20) : ax_K (am_cpy M s sp d dp n) := ax_Kc h hn
theorem c_22 (hK : ax_K M) (A : hn h) (B : hn h2) (hne : h ≠ h2) : ax_ok (am_Call d 22 [(2, h), (2, h2)] M) (fun _ M' => hCp M M' h h2 ∧ ∀ c i, (c < h ∨ h + 5 < c) → am_rd M' c i = am_rd M c i) := by
  have a := hn_a A
  have b := hn_a B
  have sp := hn_ne A B hne
  have oa : am_ob h 3 = true := by unfold am_ob; rw [show am_kd h = 3 from A]; rfl
  have ob : am_ob h2 3 = true := by unfold am_ob; rw [show am_kd h2 = 3 from B]; rfl
  have e1 : ∀ x : Int, x + 1 + 1 = x + 2 ∧ x + 1 + 2 = x + 3 ∧ x + 1 + 3 = x + 4 ∧ x + 1 + 4 = x + 5 := fun x => by omega
  have K1 := ax_Kcp (s := h2 + 1) (sp := 0) (dp := 0) (n := 48) hK a.1.1
  have K2 := ax_Kcp (s := h2 + 2) (sp := 0) (dp := 0) (n := 48) K1 a.2.1.1
  have K3 := ax_Kcp (s := h2 + 3) (sp := 0) (dp := 0) (n := 48) K2 a.2.2.1.1
  have K4 := ax_Kcp (s := h2 + 4) (sp := 0) (dp := 0) (n := 6) K3 a.2.2.2.1.1
  have key : am_Call d 22 [(2, h), (2, h2)] M = (let M5 := am_cpy (am_cpy (am_cpy (am_cpy (am_cpy M (h2 + 1) 0 (h + 1) 0 48) (h2 + 2) 0 (h + 2) 0 48) (h2 + 3) 0 (h + 3) 0 48) (h2 + 4) 0 (h + 4) 0 6) (h2 + 5) 0 (h + 5) 0 6; let M6 := am_wr M5 h 5 (am_rd M5 h2 5); let M7 := am_wr M6 h 6 (am_rd M6 h2 6); some (0, am_wr M7 h 7 (am_rd M7 h2 7))) := by
    rw [aq_22, oa, ob]
    simp only [ax_gt]
    rw [hn_r hK B (by omega) (by omega), hn_r hK A (by omega) (by omega), Int.add_zero, Int.add_zero, ax_gcp48 b.1.1 a.1.1 b.1.2 a.1.2, ax_let]
    rw [hn_r K1 B (by omega) (by omega), hn_r K1 A (by omega) (by omega), (e1 h).1, (e1 h2).1, ax_gcp48 b.2.1.1 a.2.1.1 b.2.1.2 a.2.1.2, ax_let]
    rw [hn_r K2 B (by omega) (by omega), hn_r K2 A (by omega) (by omega), (e1 h).2.1, (e1 h2).2.1, ax_gcp48 b.2.2.1.1 a.2.2.1.1 b.2.2.1.2 a.2.2.1.2, ax_let]
    rw [hn_r K3 B (by omega) (by omega), hn_r K3 A (by omega) (by omega), (e1 h).2.2.1, (e1 h2).2.2.1, ax_gcp6 b.2.2.2.1.1 a.2.2.2.1.1 b.2.2.2.1.2 a.2.2.2.1.2, ax_let]
    rw [hn_r K4 B (by omega) (by omega), hn_r K4 A (by omega) (by omega), (e1 h).2.2.2, (e1 h2).2.2.2, ax_gcp6 b.2.2.2.2.1 a.2.2.2.2.1 b.2.2.2.2.2 a.2.2.2.2.2, ax_let]
    rfl
  rw [key]
  refine ax_ok_some ⟨⟨?_, ?_, ?_, ?_, ?_⟩, ?_⟩
  · intro j j0 j1
    refine ⟨?_, ?_, ?_⟩
    all_goals
      repeat (first | rw [ax_rwn (by omega)] | rw [ax_rcn (by omega)] | (rw [ax_rcp (by omega)]; try simp only [Int.sub_zero, Int.zero_add]) | rfl)
  · intro j j0 j1
    refine ⟨?_, ?_⟩
    all_goals
      repeat (first | rw [ax_rwn (by omega)] | rw [ax_rcn (by omega)] | (rw [ax_rcp (by omega)]; try simp only [Int.sub_zero, Int.zero_add]) | rfl)
  · repeat (first | rw [ax_rwn (by omega)] | rw [ax_rcn (by omega)] | rw [ax_rwp] | rfl)
  · repeat (first | rw [ax_rwn (by omega)] | rw [ax_rcn (by omega)] | rw [ax_rwp] | rfl)
  · repeat (first | rw [ax_rwn (by omega)] | rw [ax_rcn (by omega)] | rw [ax_rwp] | rfl)
  · intro c i hc
    repeat (first | rw [ax_rwn (by omega)] | rw [ax_rcn (by omega)] | rfl)
/-! the rings -/
theorem rg_B : ∀ k : Fin 30, am_kd (57 + 6 * (k.val : Int)) = 3 ∧ am_kd (239 + 6 * (k.val : Int)) = 3 := by decide +kernel
theorem rg_1 {k : Int} (k0 : 0 ≤ k) (k1 : k < 30) : hn (57 + 6 * k) ∧ hn (239 + 6 * k) := by
  have h := rg_B ⟨k.toNat, by omega⟩
  rw [show ((⟨k.toNat, by omega⟩ : Fin 30).val : Int) = k from Int.toNat_of_nonneg k0] at h
  exact h
theorem rg_r (hK : ax_K M) {k : Int} (k0 : 0 ≤ k) (k1 : k < 30) : am_rd M 56 k = 57 + 6 * k ∧ am_rd M 238 k = 239 + 6 * k := by
  have hb : (decide (0 ≤ k) && decide (k < 30)) = true := by rw [decide_eq_true k0, decide_eq_true k1]; rfl
  constructor
  · exact (hK.2 56 k hb).trans (by show (56 : Int) + 1 + 6 * k = _; omega)
  · exact (hK.2 238 k hb).trans (by show (238 : Int) + 1 + 6 * k = _; omega)
theorem c_134 (hK : ax_K M) (q0 : 0 ≤ am_rd M 55 1) (q1 : am_rd M 55 1 < 30) (c0 : 0 ≤ am_rd M 55 2) (c1 : am_rd M 55 2 ≤ 30) : ax_ok (am_Call d 134 [(2, 55), (2, 8)] M) (fun _ M' => hCp M M' (57 + 6 * am_rd M 55 1) 8 ∧ am_rd M' 55 1 = (am_rd M 55 1 + 1) % 30 ∧ am_rd M' 55 2 = min (am_rd M 55 2 + 1) 30 ∧ ∀ c i, c ≠ 55 → (c < 57 + 6 * am_rd M 55 1 ∨ 62 + 6 * am_rd M 55 1 < c) → am_rd M' c i = am_rd M c i) := by
  have hr := rg_r hK q0 q1
  obtain ⟨r1, M1, e1, h1, f1⟩ := c_22 (d := d) hK (rg_1 q0 q1).1 (show hn 8 from rfl) (by omega)
  have g1 : am_rd M1 55 1 = am_rd M 55 1 := f1 _ _ (by omega)
  have g2 : am_rd M1 55 2 = am_rd M 55 2 := f1 _ _ (by omega)
  have hob : am_ob (57 + 6 * am_rd M 55 1) 3 = true := by unfold am_ob; rw [show am_kd (57 + 6 * am_rd M 55 1) = 3 from (rg_1 q0 q1).1]; rfl
  rw [aq_134]
  simp (disch := first | assumption | omega) only [ax_gt, ax_gi, Option.bind_some, ax_gbl, ax_gb2, ax_gd, Int.reduceEq, Int.reduceNe, Int.reduceLT, Int.reduceLE, Int.reduceAdd, Int.reduceSub, Int.reduceMul, Int.reduceNeg, reduceIte, ite_true, ite_false, true_and, and_true, false_and, and_false, true_or, or_true, false_or, or_false, not_true_eq_false, not_false_eq_true, and_self, or_self, eq_self, ite_self, decide_true, decide_false, Bool.true_and, Bool.and_true, Bool.and_self, Bool.false_and, Int.sub_zero, Int.add_zero, Int.zero_add, ax_rw, if_pos, if_neg, ax_o_55, kr_55_0, ax_q_56, hr.1, hob, e1]
  simp (disch := first | assumption | omega) only [ax_gt, ax_gi, Option.bind_some, ax_gbl, ax_gb2, ax_gd, Int.reduceEq, Int.reduceNe, Int.reduceLT, Int.reduceLE, Int.reduceAdd, Int.reduceSub, Int.reduceMul, Int.reduceNeg, reduceIte, ite_true, ite_false, true_and, and_true, false_and, and_false, true_or, or_true, false_or, or_false, not_true_eq_false, not_false_eq_true, and_self, or_self, eq_self, ite_self, decide_true, decide_false, Bool.true_and, Bool.and_true, Bool.and_self, Bool.false_and, Int.sub_zero, Int.add_zero, Int.zero_add, ax_rw, if_pos, if_neg, ax_w32, ax_let, ax_o_55, kr_55_0, ax_q_56, g1, g2, ax_rem]
  refine ax_ok_some ⟨hCp_post h1 fun c i a b => ?_, ?_, ?_, fun c i a b => ?_⟩
  · simp (disch := first | assumption | omega) only [ax_rw, if_neg]
  · simp (disch := first | assumption | omega) only [ax_rw, if_neg, if_pos, Int.reduceEq, Int.reduceNe, Int.reduceLT, Int.reduceLE, Int.reduceAdd, Int.reduceSub, Int.reduceMul, Int.reduceNeg, reduceIte, ite_true, ite_false, true_and, and_true, false_and, and_false, true_or, or_true, false_or, or_false, not_true_eq_false, not_false_eq_true, and_self, or_self, eq_self, ite_self, decide_true, decide_false, Bool.true_and, Bool.and_true, Bool.and_self, Bool.false_and, Int.sub_zero, Int.add_zero, Int.zero_add]
  · simp (disch := first | assumption | omega) only [ax_rw, if_neg, if_pos, Int.reduceEq, Int.reduceNe, Int.reduceLT, Int.reduceLE, Int.reduceAdd, Int.reduceSub, Int.reduceMul, Int.reduceNeg, reduceIte, ite_true, ite_false, true_and, and_true, false_and, and_false, true_or, or_true, false_or, or_false, not_true_eq_false, not_false_eq_true, and_self, or_self, eq_self, ite_self, decide_true, decide_false, Bool.true_and, Bool.and_true, Bool.and_self, Bool.false_and, Int.sub_zero, Int.add_zero, Int.zero_add]
  · simp (disch := first | assumption | omega) only [ax_rw, if_neg]
    exact f1 c i (by omega)
theorem c_135 (hK : ax_K M) (q0 : 0 ≤ am_rd M 55 1) (q1 : am_rd M 55 1 < 30) (c0 : 1 ≤ am_rd M 55 2) (c1 : am_rd M 55 2 ≤ 30) : ax_ok (am_Call d 135 [(2, 55), (2, 8)] M) (fun r M' => r = am_rd M 55 2 - 1 ∧ hCp M M' 8 (57 + 6 * ((am_rd M 55 1 + 29) % 30)) ∧ am_rd M' 55 1 = (am_rd M 55 1 + 29) % 30 ∧ am_rd M' 55 2 = am_rd M 55 2 - 1 ∧ ∀ c i, c ≠ 55 → (c < 8 ∨ 13 < c) → am_rd M' c i = am_rd M c i) := by
  have e0 : am_rd M 55 1 + 30 - 1 = am_rd M 55 1 + 29 := by omega
  have z0 : 0 ≤ (am_rd M 55 1 + 29) % 30 := Int.emod_nonneg _ (by omega)
  have z1 : (am_rd M 55 1 + 29) % 30 < 30 := Int.emod_lt_of_pos _ (by omega)
  have hrem : am_rem (am_rd M 55 1 + 29) 30 = (am_rd M 55 1 + 29) % 30 := ax_rem (by omega) (by omega) (by omega) (by omega)
  have hr := rg_r hK z0 z1
  rw [aq_135]
  simp (disch := first | assumption | omega) only [ax_gt, ax_gi, Option.bind_some, ax_gbl, ax_gb2, ax_gd, Int.reduceEq, Int.reduceNe, Int.reduceLT, Int.reduceLE, Int.reduceAdd, Int.reduceSub, Int.reduceMul, Int.reduceNeg, reduceIte, ite_true, ite_false, true_and, and_true, false_and, and_false, true_or, or_true, false_or, or_false, not_true_eq_false, not_false_eq_true, and_self, or_self, eq_self, ite_self, decide_true, decide_false, Bool.true_and, Bool.and_true, Bool.and_self, Bool.false_and, Int.sub_zero, Int.add_zero, Int.zero_add, ax_rw, if_pos, if_neg, ax_w32, ax_let, ax_o_55, kr_55_0, ax_q_56, e0, hrem]
  generalize (am_rd M 55 1 + 29) % 30 = q at *
  obtain ⟨r1, M1, e1, h1, f1⟩ := c_22 (d := d) hK (show hn 8 from rfl) (rg_1 z0 z1).1 (by omega)
  have g2 : am_rd M1 55 2 = am_rd M 55 2 := f1 _ _ (by omega)
  simp (disch := first | assumption | omega) only [ax_gt, ax_gi, Option.bind_some, ax_gbl, ax_gb2, ax_gd, Int.reduceEq, Int.reduceNe, Int.reduceLT, Int.reduceLE, Int.reduceAdd, Int.reduceSub, Int.reduceMul, Int.reduceNeg, reduceIte, ite_true, ite_false, true_and, and_true, false_and, and_false, true_or, or_true, false_or, or_false, not_true_eq_false, not_false_eq_true, and_self, or_self, eq_self, ite_self, decide_true, decide_false, Bool.true_and, Bool.and_true, Bool.and_self, Bool.false_and, Int.sub_zero, Int.add_zero, Int.zero_add, ax_rw, if_pos, if_neg, ax_o_55, kr_55_0, ax_q_56, ax_o_8, kr_8_0, kr_8_1, kr_8_2, kr_8_3, kr_8_4, ax_a_9, ax_a_10, ax_a_11, ax_a_12, ax_a_13, hr.1, e1]
  simp (disch := first | assumption | omega) only [ax_gt, ax_gi, Option.bind_some, ax_gbl, ax_gb2, ax_gd, Int.reduceEq, Int.reduceNe, Int.reduceLT, Int.reduceLE, Int.reduceAdd, Int.reduceSub, Int.reduceMul, Int.reduceNeg, reduceIte, ite_true, ite_false, true_and, and_true, false_and, and_false, true_or, or_true, false_or, or_false, not_true_eq_false, not_false_eq_true, and_self, or_self, eq_self, ite_self, decide_true, decide_false, Bool.true_and, Bool.and_true, Bool.and_self, Bool.false_and, Int.sub_zero, Int.add_zero, Int.zero_add, ax_rw, if_pos, if_neg, ax_w32, ax_let, ax_o_55, kr_55_0, ax_q_56, g2]
  refine ax_ok_some ⟨rfl, hCp_post h1 fun c i a b => ?_, ?_, ?_, fun c i a b => ?_⟩
  · simp (disch := first | assumption | omega) only [ax_rw, if_neg]
  · simp (disch := first | assumption | omega) only [ax_rw, if_neg, if_pos, Int.reduceEq, Int.reduceNe, Int.reduceLT, Int.reduceLE, Int.reduceAdd, Int.reduceSub, Int.reduceMul, Int.reduceNeg, reduceIte, ite_true, ite_false, true_and, and_true, false_and, and_false, true_or, or_true, false_or, or_false, not_true_eq_false, not_false_eq_true, and_self, or_self, eq_self, ite_self, decide_true, decide_false, Bool.true_and, Bool.and_true, Bool.and_self, Bool.false_and, Int.sub_zero, Int.add_zero, Int.zero_add]
  · simp (disch := first | assumption | omega) only [ax_rw, if_neg, if_pos, Int.reduceEq, Int.reduceNe, Int.reduceLT, Int.reduceLE, Int.reduceAdd, Int.reduceSub, Int.reduceMul, Int.reduceNeg, reduceIte, ite_true, ite_false, true_and, and_true, false_and, and_false, true_or, or_true, false_or, or_false, not_true_eq_false, not_false_eq_true, and_self, or_self, eq_self, ite_self, decide_true, decide_false, Bool.true_and, Bool.and_true, Bool.and_self, Bool.false_and, Int.sub_zero, Int.add_zero, Int.zero_add]
  · simp (disch := first | assumption | omega) only [ax_rw, if_neg]
    exact f1 c i (by omega)
theorem c_135n (hK : ax_K M) (q0 : 0 ≤ am_rd M 55 1) (q1 : am_rd M 55 1 < 30) (c0 : am_rd M 55 2 = 0) : am_Call d 135 [(2, 55), (2, 8)] M = some (-1, M) := by
  have e0 : am_rd M 55 1 + 30 - 1 = am_rd M 55 1 + 29 := by omega
  have hrem : am_rem (am_rd M 55 1 + 29) 30 = (am_rd M 55 1 + 29) % 30 := ax_rem (by omega) (by omega) (by omega) (by omega)
  rw [aq_135]
  simp (disch := first | assumption | omega) only [ax_gt, ax_gi, Option.bind_some, ax_gbl, ax_gb2, ax_gd, Int.reduceEq, Int.reduceNe, Int.reduceLT, Int.reduceLE, Int.reduceAdd, Int.reduceSub, Int.reduceMul, Int.reduceNeg, reduceIte, ite_true, ite_false, true_and, and_true, false_and, and_false, true_or, or_true, false_or, or_false, not_true_eq_false, not_false_eq_true, and_self, or_self, eq_self, ite_self, decide_true, decide_false, Bool.true_and, Bool.and_true, Bool.and_self, Bool.false_and, Int.sub_zero, Int.add_zero, Int.zero_add, ax_rw, if_pos, if_neg, ax_w32, ax_let, ax_o_55, kr_55_0, ax_q_56, e0, hrem, c0]
/-- all 30 of a ring are copied to the other -/
theorem c_133 {s s2 : Int} (hK : ax_K M) (hs : (s = 55 ∧ s2 = 237) ∨ (s = 237 ∧ s2 = 55)) : ax_ok (am_Call d 133 [(2, s), (2, s2)] M) (fun _ M' => (∀ k, 0 ≤ k → k < 30 → hCp M M' (s + 2 + 6 * k) (s2 + 2 + 6 * k)) ∧ am_rd M' s 1 = am_rd M s2 1 ∧ am_rd M' s 2 = am_rd M s2 2 ∧ ∀ c i, (c < s ∨ s + 181 < c) → am_rd M' c i = am_rd M c i) := by
  rw [aq_133]
  refine ax_loopQ (σ := Unit) (X := fun k _ m' => am_Ex d 133 3 [(2, s), (2, s2), (0, k)] [] m') (n := 30) (fun k _ m' => 0 ≤ k ∧ ax_K m' ∧ (∀ q, 0 ≤ q → q < k → hCp M m' (s + 2 + 6 * q) (s2 + 2 + 6 * q)) ∧ ∀ c i, (c < s + 2 ∨ s + 181 < c) → am_rd m' c i = am_rd M c i) ?_ ?_ ((30 : Int) - 0).toNat 0 () M (by omega) ⟨by omega, hK, fun q h0 h1 => by omega, fun _ _ _ => rfl⟩
  · intro k _ m' ⟨k0, hK', hc, hf⟩ k1 hnext
    have hr := rg_r hK' k0 k1
    have hg := rg_1 k0 k1
    have hA : hn (s + 2 + 6 * k) ∧ hn (s2 + 2 + 6 * k) := by
      rcases hs with ⟨rfl, rfl⟩ | ⟨rfl, rfl⟩
      · exact hg
      · exact ⟨hg.2, hg.1⟩
    have hB : am_rd m' (s + 1) k = s + 2 + 6 * k ∧ am_rd m' (s2 + 1) k = s2 + 2 + 6 * k := by
      rcases hs with ⟨rfl, rfl⟩ | ⟨rfl, rfl⟩
      · exact hr
      · exact ⟨hr.2, hr.1⟩
    obtain ⟨r1, M1, e1, h1, f1⟩ := c_22 (d := d) hK' hA.1 hA.2 (by omega)
    have hob : am_ob (s + 2 + 6 * k) 3 = true := by unfold am_ob; rw [show am_kd (s + 2 + 6 * k) = 3 from hA.1]; rfl
    show ax_ok (am_Ex d 133 3 _ _ _) _
    have key : am_Ex d 133 3 [(2, s), (2, s2), (0, k)] [] m' = am_Ex d 133 3 [(2, s), (2, s2), (0, k + 1)] [] M1 := by
      rw [aq_133_3]
      rcases hs with ⟨rfl, rfl⟩ | ⟨rfl, rfl⟩
      all_goals
        simp (disch := first | assumption | omega) only [Int.reduceEq, Int.reduceNe, Int.reduceLT, Int.reduceLE, Int.reduceAdd, Int.reduceSub, Int.reduceMul, Int.reduceNeg, reduceIte, ite_true, ite_false, true_and, and_true, false_and, and_false, true_or, or_true, false_or, or_false, not_true_eq_false, not_false_eq_true, and_self, or_self, eq_self, ite_self, decide_true, decide_false, Bool.true_and, Bool.and_true, Bool.and_self, Bool.false_and, Int.sub_zero, Int.add_zero, Int.zero_add] at hB hob e1
        simp (disch := first | assumption | omega) only [ax_gt, ax_gi, Option.bind_some, ax_gbl, ax_gb2, ax_gd, Int.reduceEq, Int.reduceNe, Int.reduceLT, Int.reduceLE, Int.reduceAdd, Int.reduceSub, Int.reduceMul, Int.reduceNeg, reduceIte, ite_true, ite_false, true_and, and_true, false_and, and_false, true_or, or_true, false_or, or_false, not_true_eq_false, not_false_eq_true, and_self, or_self, eq_self, ite_self, decide_true, decide_false, Bool.true_and, Bool.and_true, Bool.and_self, Bool.false_and, Int.sub_zero, Int.add_zero, Int.zero_add, ax_rw, if_pos, if_neg, ax_w32, ax_let, ax_o_55, kr_55_0, ax_q_56, ax_o_237, kr_237_0, ax_q_238, hB.1, hB.2, hob, e1, aq_133_26]
    rw [key]
    refine hnext () M1 ⟨by omega, ax_Kp e1 hK' rfl, fun q q0 q1 => ?_, fun c i hc => (f1 c i (by omega)).trans (hf c i hc)⟩
    by_cases e : q = k
    · subst e
      exact hCp_pre h1 fun c i a b => hf c i (by omega)
    · exact hCp_post (hc q q0 (by omega)) fun c i a b => f1 c i (by omega)
  · intro _ m' ⟨k0, hK', hc, hf⟩
    show ax_ok (am_Ex d 133 3 _ _ _) _
    have g1 : am_rd m' s2 1 = am_rd M s2 1 := hf _ _ (by omega)
    have g2 : am_rd m' s2 2 = am_rd M s2 2 := hf _ _ (by omega)
    have key : am_Ex d 133 3 [(2, s), (2, s2), (0, 30)] [] m' = some (0, am_wr (am_wr m' s 1 (am_rd M s2 1)) s 2 (am_rd M s2 2)) := by
      rw [aq_133_3]
      rcases hs with ⟨rfl, rfl⟩ | ⟨rfl, rfl⟩
      all_goals
        simp (disch := first | assumption | omega) only [ax_gt, ax_gi, Option.bind_some, ax_gbl, ax_gb2, ax_gd, Int.reduceEq, Int.reduceNe, Int.reduceLT, Int.reduceLE, Int.reduceAdd, Int.reduceSub, Int.reduceMul, Int.reduceNeg, reduceIte, ite_true, ite_false, true_and, and_true, false_and, and_false, true_or, or_true, false_or, or_false, not_true_eq_false, not_false_eq_true, and_self, or_self, eq_self, ite_self, decide_true, decide_false, Bool.true_and, Bool.and_true, Bool.and_self, Bool.false_and, Int.sub_zero, Int.add_zero, Int.zero_add, ax_rw, if_pos, if_neg, ax_let, ax_o_55, kr_55_0, ax_q_56, ax_o_237, kr_237_0, ax_q_238, g1, g2]
    rw [key]
    refine ax_ok_some ⟨fun q q0 q1 => hCp_post (hc q q0 q1) fun c i a b => ?_, ?_, ?_, fun c i a => ?_⟩
    · simp (disch := first | assumption | omega) only [ax_rw, if_neg]
    · simp (disch := first | assumption | omega) only [ax_rw, if_neg, if_pos, Int.reduceEq, Int.reduceNe, Int.reduceLT, Int.reduceLE, Int.reduceAdd, Int.reduceSub, Int.reduceMul, Int.reduceNeg, reduceIte, ite_true, ite_false, true_and, and_true, false_and, and_false, true_or, or_true, false_or, or_false, not_true_eq_false, not_false_eq_true, and_self, or_self, eq_self, ite_self, decide_true, decide_false, Bool.true_and, Bool.and_true, Bool.and_self, Bool.false_and, Int.sub_zero, Int.add_zero, Int.zero_add]
    · simp (disch := first | assumption | omega) only [ax_rw, if_pos, Int.reduceEq, Int.reduceNe, Int.reduceLT, Int.reduceLE, Int.reduceAdd, Int.reduceSub, Int.reduceMul, Int.reduceNeg, reduceIte, ite_true, ite_false, true_and, and_true, false_and, and_false, true_or, or_true, false_or, or_false, not_true_eq_false, not_false_eq_true, and_self, or_self, eq_self, ite_self, decide_true, decide_false, Bool.true_and, Bool.and_true, Bool.and_self, Bool.false_and, Int.sub_zero, Int.add_zero, Int.zero_add]
    · simp (disch := first | assumption | omega) only [ax_rw, if_neg]
      exact hf c i (by omega)
end
