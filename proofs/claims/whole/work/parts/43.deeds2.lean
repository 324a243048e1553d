/-! DEEDS on the developers' side: drink, smells, draws, winters -/
theorem ax_fo_more {α : Type} {f : Int → α → α} {T n : Int} (P : α → Prop) (hT : T ≤ n) (hP : ∀ i a, i < T → 0 ≤ i → P a → P (f i a)) (hf : ∀ i a, T ≤ i → i < n → P a → f i a = a) : ∀ (j : Nat) (k : Int) (a : α), 0 ≤ k → k ≤ T → (T - k).toNat = j → P a → ax_fo f (n - k).toNat k a = ax_fo f (T - k).toNat k a := by
  have tail : ∀ (j : Nat) (k : Int) (a : α), T ≤ k → k ≤ n → (n - k).toNat = j → P a → ax_fo f (n - k).toNat k a = a := by
    intro j
    induction j with
    | zero => intro k a h1 h2 h3 _; rw [h3]; rfl
    | succ j ih =>
      intro k a h1 h2 h3 hPa
      rw [ax_fo_s (by omega), hf k a h1 (by omega) hPa]
      exact ih (k + 1) a (by omega) (by omega) (by omega) hPa
  intro j
  induction j with
  | zero =>
    intro k a k0 h1 h2 hPa
    have : k = T := by omega
    subst this
    rw [tail _ k a (Int.le_refl _) hT rfl hPa, ax_fo_e (Int.le_refl _)]
  | succ j ih =>
    intro k a k0 h1 h2 hPa
    rw [ax_fo_s (by omega), ax_fo_s (n := T) (by omega)]
    exact ih (k + 1) (f k a) (by omega) (by omega) (by omega) (hP k a (by omega) k0 hPa)
theorem hR_cl {H : Int → Int} {m t v v' : Int} (h : hcl 0 99 v = hcl 0 99 v') : hR H m t v = hR H m t v' := by
  unfold hR
  rw [h]
theorem hcl_neg {v : Int} (h : v ≤ 0) : hcl 0 99 v = 0 := by
  unfold hcl
  (repeat' split) <;> omega
section
variable {M : am_M} {d : Nat} {h n T al m t k : Int} {P W H : Int → Int} {cd : Int → Option (List (Int × Int))}
theorem hDr_8 (B : HB T H) (T0 : 0 ≤ T) (hT : T ≤ 8) (m0 : 0 ≤ m) (m1 : m < 6) : ax_fo (fun t H => if am_and (am_shr (H (144 + m)) t) 1 = 1 then H else hR H m t (H (8 * m + t) - 3)) ((8 : Int) - 0).toNat 0 H = hDr T m H := by
  unfold hDr
  refine ax_fo_more (P := fun H => HB T H) hT ?_ ?_ _ 0 H (by omega) T0 rfl B
  · intro t H t1 t0 hB
    try dsimp only
    split
    · exact hB
    · exact HB_R hB m0 m1 t0 t1 hT
  · intro t H t1 t2 hB
    have h1 := hB.1 (8 * m + t) (by omega) (by omega)
    have h2 := hB.2.2.2.2 m t m0 m1 t1 (by omega) t2
    try dsimp only
    split
    · rfl
    · rw [hR_cl (v' := 0) (by rw [hcl_neg (by omega), hcl_neg (by omega)])]
      exact hR_same (by omega) (by omega) (by omega) (by omega)
theorem hBk_8 {bits : Int} (B : HB T H) (T0 : 0 ≤ T) (hT : T ≤ 8) (m0 : 0 ≤ m) (m1 : m < 6) : ax_fo (fun t H => if am_and (am_shr bits t) 1 = 1 then hR H m t (H (96 + (8 * m + t))) else H) ((8 : Int) - 0).toNat 0 H = hBk T m bits H := by
  unfold hBk
  refine ax_fo_more (P := fun H => HB T H) hT ?_ ?_ _ 0 H (by omega) T0 rfl B
  · intro t H t1 t0 hB
    try dsimp only
    split
    · exact HB_R hB m0 m1 t0 t1 hT
    · exact hB
  · intro t H t1 t2 hB
    have h1 := hB.1 (8 * m + t) (by omega) (by omega)
    have h2 := hB.2.2.2.2 m t m0 m1 t1 (by omega) t2
    try dsimp only
    split
    · rw [h2]
      exact hR_same (by omega) (by omega) (by omega) (by omega)
    · rfl
theorem c_172 (hK : ax_K M) (hh : h = 8 ∨ h = 425) (C : CH M h n H) (B : HB T H) (T0 : 0 ≤ T) (hT : T ≤ 8) (m0 : 0 ≤ m) (m1 : m < 6) : ax_ok (am_Call d 172 [(2, h), (0, m)] M) (fun _ M' => CH M' h n (hDr T m H) ∧ HF M M' h) := by
  have hob := ob3 hh
  rw [aq_172, ← hDr_8 B T0 hT m0 m1]
  refine ax_loopQ (σ := Int → Int) (X := fun t _ m' => am_Ex d 172 3 [(2, h), (0, m), (0, t)] [] m') (n := 8) (fun t H' m' => 0 ≤ t ∧ ax_K m' ∧ CH m' h n H' ∧ HF M m' h ∧ (∀ j, 0 ≤ j → j < 48 → 0 ≤ H' j ∧ H' j ≤ 99) ∧ ax_fo (fun t H => if am_and (am_shr (H (144 + m)) t) 1 = 1 then H else hR H m t (H (8 * m + t) - 3)) (8 - t).toNat t H' = ax_fo (fun t H => if am_and (am_shr (H (144 + m)) t) 1 = 1 then H else hR H m t (H (8 * m + t) - 3)) ((8 : Int) - 0).toNat 0 H) ?_ ?_ ((8 : Int) - 0).toNat 0 H M (by omega) ⟨by omega, hK, C, HF_refl, fun j j0 j1 => by have := B.1 j j0 j1; omega, rfl⟩
  · intro t H' m' ⟨t0, hK', C', F', b', hs⟩ t1 hnext
    have e0 := c_117 (d := d) hK' hh C' m0 m1 t0 t1
    have bb := b' (8 * m + t) (by omega) (by omega)
    show ax_ok (am_Ex d 172 3 _ _ _) _
    rw [aq_172_3]
    by_cases hsg : am_and (am_shr (H' (144 + m)) t) 1 = 1
    · simp (disch := first | assumption | omega) only [ax_gt, ax_gi, Option.bind_some, ax_gbl, ax_gb2, ax_gd, Int.reduceEq, Int.reduceNe, Int.reduceLT, Int.reduceLE, Int.reduceAdd, Int.reduceSub, Int.reduceMul, Int.reduceNeg, reduceIte, ite_true, ite_false, true_and, and_true, false_and, and_false, true_or, or_true, false_or, or_false, not_true_eq_false, not_false_eq_true, and_self, or_self, eq_self, ite_self, decide_true, decide_false, Bool.true_and, Bool.and_true, Bool.and_self, Bool.false_and, Int.sub_zero, Int.add_zero, Int.zero_add, ax_rw, if_pos, if_neg, ax_w32, ax_let, hob, e0, ax_b0, hsg, aq_172_22]
      exact hnext H' m' ⟨by omega, hK', C', F', b', by rw [← hs, ax_fo_s t1, if_pos hsg]⟩
    · have e1 := c_114 (d := d) hK' hh C' m0 m1 t0 t1
      obtain ⟨r2, M2, e2, C2, F2⟩ := c_119 (d := d) (v := H' (8 * m + t) - 3) hK' hh C' m0 m1 t0 t1
      simp (disch := first | assumption | omega) only [ax_gt, ax_gi, Option.bind_some, ax_gbl, ax_gb2, ax_gd, Int.reduceEq, Int.reduceNe, Int.reduceLT, Int.reduceLE, Int.reduceAdd, Int.reduceSub, Int.reduceMul, Int.reduceNeg, reduceIte, ite_true, ite_false, true_and, and_true, false_and, and_false, true_or, or_true, false_or, or_false, not_true_eq_false, not_false_eq_true, and_self, or_self, eq_self, ite_self, decide_true, decide_false, Bool.true_and, Bool.and_true, Bool.and_self, Bool.false_and, Int.sub_zero, Int.add_zero, Int.zero_add, ax_rw, if_pos, if_neg, ax_w32, ax_let, hob, e0, e1, e2, ax_b0, hsg, aq_172_22]
      refine hnext _ M2 ⟨by omega, ax_Kp e2 hK' rfl, C2, HF_trans F' F2, fun j j0 j1 => ?_, by rw [← hs, ax_fo_s t1, if_neg hsg]⟩
      have hc := hcl_99 (v := H' (8 * m + t) - 3)
      have := b' j j0 j1
      by_cases e : j = 8 * m + t <;> simp (disch := omega) only [hR, hu, if_pos, if_neg, ite_true, e] <;> assumption
  · intro H' m' ⟨t0, hK', C', F', b', hs⟩
    rw [ax_fo_e (by omega)] at hs
    show ax_ok (am_Ex d 172 3 _ _ _) _
    rw [aq_172_3, if_neg (by omega)]
    exact ax_ok_some ⟨hs ▸ C', F'⟩
theorem c_173 {bits : Int} (hK : ax_K M) (hh : h = 8 ∨ h = 425) (C : CH M h n H) (B : HB T H) (T0 : 0 ≤ T) (hT : T ≤ 8) (m0 : 0 ≤ m) (m1 : m < 6) : ax_ok (am_Call d 173 [(2, h), (0, m), (0, bits)] M) (fun _ M' => CH M' h n (hBk T m bits H) ∧ HF M M' h) := by
  have hob := ob3 hh
  rw [aq_173, ← hBk_8 B T0 hT m0 m1]
  refine ax_loopQ (σ := Int → Int) (X := fun t _ m' => am_Ex d 173 3 [(2, h), (0, m), (0, bits), (0, t)] [] m') (n := 8) (fun t H' m' => 0 ≤ t ∧ ax_K m' ∧ CH m' h n H' ∧ HF M m' h ∧ ax_fo (fun t H => if am_and (am_shr bits t) 1 = 1 then hR H m t (H (96 + (8 * m + t))) else H) (8 - t).toNat t H' = ax_fo (fun t H => if am_and (am_shr bits t) 1 = 1 then hR H m t (H (96 + (8 * m + t))) else H) ((8 : Int) - 0).toNat 0 H) ?_ ?_ ((8 : Int) - 0).toNat 0 H M (by omega) ⟨by omega, hK, C, HF_refl, rfl⟩
  · intro t H' m' ⟨t0, hK', C', F', hs⟩ t1 hnext
    show ax_ok (am_Ex d 173 3 _ _ _) _
    rw [aq_173_3]
    by_cases hsg : am_and (am_shr bits t) 1 = 1
    · have e1 := c_116 (d := d) hK' hh C' m0 m1 t0 t1
      obtain ⟨r2, M2, e2, C2, F2⟩ := c_119 (d := d) (v := H' (96 + (8 * m + t))) hK' hh C' m0 m1 t0 t1
      simp (disch := first | assumption | omega) only [ax_gt, ax_gi, Option.bind_some, ax_gbl, ax_gb2, ax_gd, Int.reduceEq, Int.reduceNe, Int.reduceLT, Int.reduceLE, Int.reduceAdd, Int.reduceSub, Int.reduceMul, Int.reduceNeg, reduceIte, ite_true, ite_false, true_and, and_true, false_and, and_false, true_or, or_true, false_or, or_false, not_true_eq_false, not_false_eq_true, and_self, or_self, eq_self, ite_self, decide_true, decide_false, Bool.true_and, Bool.and_true, Bool.and_self, Bool.false_and, Int.sub_zero, Int.add_zero, Int.zero_add, ax_rw, if_pos, if_neg, ax_w32, ax_let, hob, e1, e2, ax_a0, hsg, aq_173_21]
      exact hnext _ M2 ⟨by omega, ax_Kp e2 hK' rfl, C2, HF_trans F' F2, by rw [← hs, ax_fo_s t1, if_pos hsg]⟩
    · simp (disch := first | assumption | omega) only [ax_gt, ax_gi, Option.bind_some, ax_gbl, ax_gb2, ax_gd, Int.reduceEq, Int.reduceNe, Int.reduceLT, Int.reduceLE, Int.reduceAdd, Int.reduceSub, Int.reduceMul, Int.reduceNeg, reduceIte, ite_true, ite_false, true_and, and_true, false_and, and_false, true_or, or_true, false_or, or_false, not_true_eq_false, not_false_eq_true, and_self, or_self, eq_self, ite_self, decide_true, decide_false, Bool.true_and, Bool.and_true, Bool.and_self, Bool.false_and, Int.sub_zero, Int.add_zero, Int.zero_add, ax_rw, if_pos, if_neg, ax_w32, ax_let, hob, ax_a0, hsg, aq_173_21]
      exact hnext H' m' ⟨by omega, hK', C', F', by rw [← hs, ax_fo_s t1, if_neg hsg]⟩
  · intro H' m' ⟨t0, hK', C', F', hs⟩
    rw [ax_fo_e (by omega)] at hs
    show ax_ok (am_Ex d 173 3 _ _ _) _
    rw [aq_173_3, if_neg (by omega)]
    exact ax_ok_some ⟨hs ▸ C', F'⟩
theorem c_1 (hK : ax_K M) (hh : h = 8 ∨ h = 425) (C : CH M h n H) (x0 : 0 ≤ H 163) (x1 : H 163 < 30293) (k0 : 0 < k) (k1 : k < 100) : ax_ok (am_Call d 1 [(2, h), (0, k)] M) (fun r M' => r = H 163 % k ∧ CH M' h n (hX H) ∧ HF M M' h) := by
  have hob := ob3 hh
  have hne : ¬ k = 0 := by omega
  obtain ⟨k2, C2, F2⟩ := c_xx (v := (H 163 * 281 + 179) % 30293) hK hh C
  have hx := C.2.2.2.2.2.2.2.2
  rw [aq_1]
  simp (disch := first | assumption | omega) only [ax_gt, ax_gi, Option.bind_some, ax_gbl, ax_gb2, ax_gd, Int.reduceEq, Int.reduceNe, Int.reduceLT, Int.reduceLE, Int.reduceAdd, Int.reduceSub, Int.reduceMul, Int.reduceNeg, reduceIte, ite_true, ite_false, true_and, and_true, false_and, and_false, true_or, or_true, false_or, or_false, not_true_eq_false, not_false_eq_true, and_self, or_self, eq_self, ite_self, decide_true, decide_false, Bool.true_and, Bool.and_true, Bool.and_self, Bool.false_and, Int.sub_zero, Int.add_zero, Int.zero_add, ax_rw, if_pos, if_neg, ax_w32, ax_let, hob, hx, ax_rem, hne]
  exact ax_ok_some ⟨rfl, C2, F2⟩
theorem c_272 (hK : ax_K M) (C : CH M 8 n H) (E : CE M T n al P W cd) (S : ES T n al P W cd) (B : HB T H) (n0 : 0 < n) (T0 : 0 < T) : ax_ok (am_Call d 272 [(2, 42), (2, 8)] M) (fun _ M' => CH M' 8 n (hWin T n al P W cd H) ∧ HF M M' 8) := by
  have hh : (8 : Int) = 8 ∨ (8 : Int) = 425 := Or.inl rfl
  have hT := S.1
  have hn := S.2.1
  have hob := ob3 hh
  have B1 := HB_X B
  have B2 := HB_X B1
  have B3 := HB_X B2
  have B4 := HB_X B3
  have w0 : 0 ≤ H 163 % 6 := Int.emod_nonneg _ (by omega)
  have w1 : H 163 % 6 < 6 := Int.emod_lt_of_pos _ (by omega)
  obtain ⟨r1, M1, e1, rfl, C1, F1⟩ := c_1 (d := d) (k := 6) hK hh C B.2.2.2.1.1 B.2.2.2.1.2 (by omega) (by omega)
  have hK1 := ax_Kp e1 hK rfl
  have E1 := HF_CE hh E F1
  obtain ⟨r2, M2, e2, rfl, C2, F2⟩ := c_1 (d := d) (k := n) hK1 hh C1 B1.2.2.2.1.1 B1.2.2.2.1.2 (by omega) (by omega)
  have hK2 := ax_Kp e2 hK1 rfl
  have E2 := HF_CE hh E1 F2
  obtain ⟨r3, M3, e3, rfl, C3, F3⟩ := c_1 (d := d) (k := T) hK2 hh C2 B2.2.2.2.1.1 B2.2.2.2.1.2 (by omega) (by omega)
  have hK3 := ax_Kp e3 hK2 rfl
  have E3 := HF_CE hh E2 F3
  obtain ⟨r4, M4, e4, rfl, C4, F4⟩ := c_1 (d := d) (k := 40) hK3 hh C3 B3.2.2.2.1.1 B3.2.2.2.1.2 (by omega) (by omega)
  have hK4 := ax_Kp e4 hK3 rfl
  have E4 := HF_CE hh E3 F4
  have F02 := HF_trans F1 F2
  have F03 := HF_trans F02 F3
  have F04 := HF_trans F03 F4
  rw [aq_272]
  unfold hWin
  dsimp only
  generalize hX H = H1 at *
  generalize hX H1 = H2 at *
  generalize hX H2 = H3 at *
  generalize hX H3 = H4 at *
  have m0 : 0 ≤ H1 163 % n := Int.emod_nonneg _ (by omega)
  have m1 : H1 163 % n < n := Int.emod_lt_of_pos _ n0
  have t0 : 0 ≤ H2 163 % T := Int.emod_nonneg _ (by omega)
  have t1 : H2 163 % T < T := Int.emod_lt_of_pos _ T0
  have k0 : 0 ≤ H3 163 % 40 := Int.emod_nonneg _ (by omega)
  have k1 : H3 163 % 40 < 40 := Int.emod_lt_of_pos _ (by omega)
  generalize H1 163 % n = m at *
  generalize H2 163 % T = t at *
  generalize H3 163 % 40 = k at *
  generalize H 163 % 6 = w at *
  have hday := C1.2.2.2.2.2.2.2.1
  by_cases hw : 3 < w
  · rw [if_pos hw]
    by_cases hd : H1 162 < 999
    · rw [if_pos hd]
      obtain ⟨r5, M5, e5, C5, F5⟩ := c_256 (d := d) hK1 hh C1 E1 S B1 (a := 0) (b := n) (by omega) (by omega) (by omega) (by omega)
      simp (disch := first | assumption | omega) only [ax_gt, ax_gi, Option.bind_some, ax_gbl, ax_gb2, ax_gd, Int.reduceEq, Int.reduceNe, Int.reduceLT, Int.reduceLE, Int.reduceAdd, Int.reduceSub, Int.reduceMul, Int.reduceNeg, reduceIte, ite_true, ite_false, true_and, and_true, false_and, and_false, true_or, or_true, false_or, or_false, not_true_eq_false, not_false_eq_true, and_self, or_self, eq_self, ite_self, decide_true, decide_false, Bool.true_and, Bool.and_true, Bool.and_self, Bool.false_and, Int.sub_zero, Int.add_zero, Int.zero_add, ax_rw, if_pos, if_neg, ax_let, hob, ax_o_2, kr_2_0, kr_2_1, kr_2_2, kr_2_3, kr_2_4, ax_a_3, ax_a_4, ax_a_5, ax_a_6, ax_a_7, ax_o_42, kr_42_0, kr_42_1, e1, E1.1.2.1, hday, e5]
      exact ax_ok_some ⟨C5, HF_trans F1 F5⟩
    · rw [if_neg hd]
      simp (disch := first | assumption | omega) only [ax_gt, ax_gi, Option.bind_some, ax_gbl, ax_gb2, ax_gd, Int.reduceEq, Int.reduceNe, Int.reduceLT, Int.reduceLE, Int.reduceAdd, Int.reduceSub, Int.reduceMul, Int.reduceNeg, reduceIte, ite_true, ite_false, true_and, and_true, false_and, and_false, true_or, or_true, false_or, or_false, not_true_eq_false, not_false_eq_true, and_self, or_self, eq_self, ite_self, decide_true, decide_false, Bool.true_and, Bool.and_true, Bool.and_self, Bool.false_and, Int.sub_zero, Int.add_zero, Int.zero_add, ax_rw, if_pos, if_neg, ax_let, hob, ax_o_2, kr_2_0, kr_2_1, kr_2_2, kr_2_3, kr_2_4, ax_a_3, ax_a_4, ax_a_5, ax_a_6, ax_a_7, ax_o_42, kr_42_0, kr_42_1, e1, hday]
      exact ax_ok_some ⟨C1, F1⟩
  rw [if_neg hw]
  by_cases h3 : w = 3
  · subst h3
    have e5 := fun d => c_25 (d := d) hK2 hh C2 m0 (by omega)
    simp only [Int.reduceEq, Int.reduceNe, Int.reduceLT, Int.reduceLE, Int.reduceAdd, Int.reduceSub, Int.reduceMul, Int.reduceNeg, reduceIte, ite_true, ite_false, true_and, and_true, false_and, and_false, true_or, or_true, false_or, or_false, not_true_eq_false, not_false_eq_true, and_self, or_self, eq_self, ite_self, decide_true, decide_false, Bool.true_and, Bool.and_true, Bool.and_self, Bool.false_and, Int.sub_zero, Int.add_zero, Int.zero_add]
    by_cases hf : H2 (156 + m) = 0
    · rw [if_pos hf]
      obtain ⟨r6, M6, e6, C6, F6⟩ := c_172 (d := d) hK2 hh C2 B2 hT.1 hT.2 m0 (by omega)
      simp (disch := first | assumption | omega) only [ax_gt, ax_gi, Option.bind_some, ax_gbl, ax_gb2, ax_gd, Int.reduceEq, Int.reduceNe, Int.reduceLT, Int.reduceLE, Int.reduceAdd, Int.reduceSub, Int.reduceMul, Int.reduceNeg, reduceIte, ite_true, ite_false, true_and, and_true, false_and, and_false, true_or, or_true, false_or, or_false, not_true_eq_false, not_false_eq_true, and_self, or_self, eq_self, ite_self, decide_true, decide_false, Bool.true_and, Bool.and_true, Bool.and_self, Bool.false_and, Int.sub_zero, Int.add_zero, Int.zero_add, ax_rw, if_pos, if_neg, ax_let, hob, ax_o_2, kr_2_0, kr_2_1, kr_2_2, kr_2_3, kr_2_4, ax_a_3, ax_a_4, ax_a_5, ax_a_6, ax_a_7, ax_o_42, kr_42_0, kr_42_1, e1, E1.1.2.1, e2]
      rw [aq_272_36]
      simp (disch := first | assumption | omega) only [ax_gt, ax_gi, Option.bind_some, ax_gbl, ax_gb2, ax_gd, Int.reduceEq, Int.reduceNe, Int.reduceLT, Int.reduceLE, Int.reduceAdd, Int.reduceSub, Int.reduceMul, Int.reduceNeg, reduceIte, ite_true, ite_false, true_and, and_true, false_and, and_false, true_or, or_true, false_or, or_false, not_true_eq_false, not_false_eq_true, and_self, or_self, eq_self, ite_self, decide_true, decide_false, Bool.true_and, Bool.and_true, Bool.and_self, Bool.false_and, Int.sub_zero, Int.add_zero, Int.zero_add, ax_rw, if_pos, if_neg, ax_w32, ax_let, hob, ax_o_2, kr_2_0, kr_2_1, kr_2_2, kr_2_3, kr_2_4, ax_a_3, ax_a_4, ax_a_5, ax_a_6, ax_a_7, ax_o_42, kr_42_0, kr_42_1]
      rw [aq_272_47]
      simp (disch := first | assumption | omega) only [ax_gt, ax_gi, Option.bind_some, ax_gbl, ax_gb2, ax_gd, Int.reduceEq, Int.reduceNe, Int.reduceLT, Int.reduceLE, Int.reduceAdd, Int.reduceSub, Int.reduceMul, Int.reduceNeg, reduceIte, ite_true, ite_false, true_and, and_true, false_and, and_false, true_or, or_true, false_or, or_false, not_true_eq_false, not_false_eq_true, and_self, or_self, eq_self, ite_self, decide_true, decide_false, Bool.true_and, Bool.and_true, Bool.and_self, Bool.false_and, Int.sub_zero, Int.add_zero, Int.zero_add, ax_rw, if_pos, if_neg, ax_w32, ax_let, hob, ax_o_2, kr_2_0, kr_2_1, kr_2_2, kr_2_3, kr_2_4, ax_a_3, ax_a_4, ax_a_5, ax_a_6, ax_a_7, ax_o_42, kr_42_0, kr_42_1, e5, ax_b0, hf, e6]
      exact ax_ok_some ⟨C6, HF_trans F02 F6⟩
    · rw [if_neg hf]
      simp (disch := first | assumption | omega) only [ax_gt, ax_gi, Option.bind_some, ax_gbl, ax_gb2, ax_gd, Int.reduceEq, Int.reduceNe, Int.reduceLT, Int.reduceLE, Int.reduceAdd, Int.reduceSub, Int.reduceMul, Int.reduceNeg, reduceIte, ite_true, ite_false, true_and, and_true, false_and, and_false, true_or, or_true, false_or, or_false, not_true_eq_false, not_false_eq_true, and_self, or_self, eq_self, ite_self, decide_true, decide_false, Bool.true_and, Bool.and_true, Bool.and_self, Bool.false_and, Int.sub_zero, Int.add_zero, Int.zero_add, ax_rw, if_pos, if_neg, ax_let, hob, ax_o_2, kr_2_0, kr_2_1, kr_2_2, kr_2_3, kr_2_4, ax_a_3, ax_a_4, ax_a_5, ax_a_6, ax_a_7, ax_o_42, kr_42_0, kr_42_1, e1, E1.1.2.1, e2]
      rw [aq_272_36]
      simp (disch := first | assumption | omega) only [ax_gt, ax_gi, Option.bind_some, ax_gbl, ax_gb2, ax_gd, Int.reduceEq, Int.reduceNe, Int.reduceLT, Int.reduceLE, Int.reduceAdd, Int.reduceSub, Int.reduceMul, Int.reduceNeg, reduceIte, ite_true, ite_false, true_and, and_true, false_and, and_false, true_or, or_true, false_or, or_false, not_true_eq_false, not_false_eq_true, and_self, or_self, eq_self, ite_self, decide_true, decide_false, Bool.true_and, Bool.and_true, Bool.and_self, Bool.false_and, Int.sub_zero, Int.add_zero, Int.zero_add, ax_rw, if_pos, if_neg, ax_w32, ax_let, hob, ax_o_2, kr_2_0, kr_2_1, kr_2_2, kr_2_3, kr_2_4, ax_a_3, ax_a_4, ax_a_5, ax_a_6, ax_a_7, ax_o_42, kr_42_0, kr_42_1]
      rw [aq_272_47]
      simp (disch := first | assumption | omega) only [ax_gt, ax_gi, Option.bind_some, ax_gbl, ax_gb2, ax_gd, Int.reduceEq, Int.reduceNe, Int.reduceLT, Int.reduceLE, Int.reduceAdd, Int.reduceSub, Int.reduceMul, Int.reduceNeg, reduceIte, ite_true, ite_false, true_and, and_true, false_and, and_false, true_or, or_true, false_or, or_false, not_true_eq_false, not_false_eq_true, and_self, or_self, eq_self, ite_self, decide_true, decide_false, Bool.true_and, Bool.and_true, Bool.and_self, Bool.false_and, Int.sub_zero, Int.add_zero, Int.zero_add, ax_rw, if_pos, if_neg, ax_w32, ax_let, hob, ax_o_2, kr_2_0, kr_2_1, kr_2_2, kr_2_3, kr_2_4, ax_a_3, ax_a_4, ax_a_5, ax_a_6, ax_a_7, ax_o_42, kr_42_0, kr_42_1, e5, ax_b0, hf]
      exact ax_ok_some ⟨C2, F02⟩
  rw [if_neg h3]
  by_cases h2 : w < 2
  · simp only [if_pos h2]
    have e5 := fun d => c_25 (d := d) hK4 hh C4 m0 (by omega)
    by_cases hf : H4 (156 + m) = 0
    · rw [if_pos hf, if_neg (by omega)]
      by_cases hw1 : w = 1
      · rw [if_pos hw1]
        obtain ⟨r6, M6, e6, C6, F6⟩ := c_207 (d := d) (k := 1 + k) hK4 hh C4 E4 S B4 m0 m1 t0 t1 (by omega) (by omega)
        simp (disch := first | assumption | omega) only [ax_gt, ax_gi, Option.bind_some, ax_gbl, ax_gb2, ax_gd, Int.reduceEq, Int.reduceNe, Int.reduceLT, Int.reduceLE, Int.reduceAdd, Int.reduceSub, Int.reduceMul, Int.reduceNeg, reduceIte, ite_true, ite_false, true_and, and_true, false_and, and_false, true_or, or_true, false_or, or_false, not_true_eq_false, not_false_eq_true, and_self, or_self, eq_self, ite_self, decide_true, decide_false, Bool.true_and, Bool.and_true, Bool.and_self, Bool.false_and, Int.sub_zero, Int.add_zero, Int.zero_add, ax_rw, if_pos, if_neg, ax_w32, ax_let, hob, ax_o_2, kr_2_0, kr_2_1, kr_2_2, kr_2_3, kr_2_4, ax_a_3, ax_a_4, ax_a_5, ax_a_6, ax_a_7, ax_o_42, kr_42_0, kr_42_1, e1, E1.1.2.1, e2, E2.1.1, e3]
        rw [aq_272_36]
        simp (disch := first | assumption | omega) only [ax_gt, ax_gi, Option.bind_some, ax_gbl, ax_gb2, ax_gd, Int.reduceEq, Int.reduceNe, Int.reduceLT, Int.reduceLE, Int.reduceAdd, Int.reduceSub, Int.reduceMul, Int.reduceNeg, reduceIte, ite_true, ite_false, true_and, and_true, false_and, and_false, true_or, or_true, false_or, or_false, not_true_eq_false, not_false_eq_true, and_self, or_self, eq_self, ite_self, decide_true, decide_false, Bool.true_and, Bool.and_true, Bool.and_self, Bool.false_and, Int.sub_zero, Int.add_zero, Int.zero_add, ax_rw, if_pos, if_neg, ax_w32, ax_let, hob, ax_o_2, kr_2_0, kr_2_1, kr_2_2, kr_2_3, kr_2_4, ax_a_3, ax_a_4, ax_a_5, ax_a_6, ax_a_7, ax_o_42, kr_42_0, kr_42_1, e4]
        rw [aq_272_47]
        simp (disch := first | assumption | omega) only [ax_gt, ax_gi, Option.bind_some, ax_gbl, ax_gb2, ax_gd, Int.reduceEq, Int.reduceNe, Int.reduceLT, Int.reduceLE, Int.reduceAdd, Int.reduceSub, Int.reduceMul, Int.reduceNeg, reduceIte, ite_true, ite_false, true_and, and_true, false_and, and_false, true_or, or_true, false_or, or_false, not_true_eq_false, not_false_eq_true, and_self, or_self, eq_self, ite_self, decide_true, decide_false, Bool.true_and, Bool.and_true, Bool.and_self, Bool.false_and, Int.sub_zero, Int.add_zero, Int.zero_add, ax_rw, if_pos, if_neg, ax_w32, ax_let, hob, ax_o_2, kr_2_0, kr_2_1, kr_2_2, kr_2_3, kr_2_4, ax_a_3, ax_a_4, ax_a_5, ax_a_6, ax_a_7, ax_o_42, kr_42_0, kr_42_1, e5, ax_b0, hf, e6]
        exact ax_ok_some ⟨C6, HF_trans F04 F6⟩
      · rw [if_neg hw1]
        have e6 := c_118 (d := d) (t := t) hK4 hh C4 m0 (by omega) m1
        have e7 := c_114 (d := d) hK4 hh C4 m0 (by omega) t0 (by omega)
        have b4 := B4.1 (8 * m + t) (by omega) (by omega)
        by_cases ht : H4 (150 + m) = t
        · rw [if_pos ht]
          simp (disch := first | assumption | omega) only [ax_gt, ax_gi, Option.bind_some, ax_gbl, ax_gb2, ax_gd, Int.reduceEq, Int.reduceNe, Int.reduceLT, Int.reduceLE, Int.reduceAdd, Int.reduceSub, Int.reduceMul, Int.reduceNeg, reduceIte, ite_true, ite_false, true_and, and_true, false_and, and_false, true_or, or_true, false_or, or_false, not_true_eq_false, not_false_eq_true, and_self, or_self, eq_self, ite_self, decide_true, decide_false, Bool.true_and, Bool.and_true, Bool.and_self, Bool.false_and, Int.sub_zero, Int.add_zero, Int.zero_add, ax_rw, if_pos, if_neg, ax_w32, ax_let, hob, ax_o_2, kr_2_0, kr_2_1, kr_2_2, kr_2_3, kr_2_4, ax_a_3, ax_a_4, ax_a_5, ax_a_6, ax_a_7, ax_o_42, kr_42_0, kr_42_1, e1, E1.1.2.1, e2, E2.1.1, e3]
          rw [aq_272_36]
          simp (disch := first | assumption | omega) only [ax_gt, ax_gi, Option.bind_some, ax_gbl, ax_gb2, ax_gd, Int.reduceEq, Int.reduceNe, Int.reduceLT, Int.reduceLE, Int.reduceAdd, Int.reduceSub, Int.reduceMul, Int.reduceNeg, reduceIte, ite_true, ite_false, true_and, and_true, false_and, and_false, true_or, or_true, false_or, or_false, not_true_eq_false, not_false_eq_true, and_self, or_self, eq_self, ite_self, decide_true, decide_false, Bool.true_and, Bool.and_true, Bool.and_self, Bool.false_and, Int.sub_zero, Int.add_zero, Int.zero_add, ax_rw, if_pos, if_neg, ax_w32, ax_let, hob, ax_o_2, kr_2_0, kr_2_1, kr_2_2, kr_2_3, kr_2_4, ax_a_3, ax_a_4, ax_a_5, ax_a_6, ax_a_7, ax_o_42, kr_42_0, kr_42_1, e4]
          rw [aq_272_47]
          simp (disch := first | assumption | omega) only [ax_gt, ax_gi, Option.bind_some, ax_gbl, ax_gb2, ax_gd, Int.reduceEq, Int.reduceNe, Int.reduceLT, Int.reduceLE, Int.reduceAdd, Int.reduceSub, Int.reduceMul, Int.reduceNeg, reduceIte, ite_true, ite_false, true_and, and_true, false_and, and_false, true_or, or_true, false_or, or_false, not_true_eq_false, not_false_eq_true, and_self, or_self, eq_self, ite_self, decide_true, decide_false, Bool.true_and, Bool.and_true, Bool.and_self, Bool.false_and, Int.sub_zero, Int.add_zero, Int.zero_add, ax_rw, if_pos, if_neg, ax_w32, ax_let, hob, ax_o_2, kr_2_0, kr_2_1, kr_2_2, kr_2_3, kr_2_4, ax_a_3, ax_a_4, ax_a_5, ax_a_6, ax_a_7, ax_o_42, kr_42_0, kr_42_1, e5, ax_b0, hf, e6, ht]
          exact ax_ok_some ⟨C4, F04⟩
        · rw [if_neg ht]
          obtain ⟨r8, M8, e8, C8, F8⟩ := c_119 (d := d) (v := H4 (8 * m + t) + (1 + k)) hK4 hh C4 m0 (by omega) t0 (by omega)
          simp (disch := first | assumption | omega) only [ax_gt, ax_gi, Option.bind_some, ax_gbl, ax_gb2, ax_gd, Int.reduceEq, Int.reduceNe, Int.reduceLT, Int.reduceLE, Int.reduceAdd, Int.reduceSub, Int.reduceMul, Int.reduceNeg, reduceIte, ite_true, ite_false, true_and, and_true, false_and, and_false, true_or, or_true, false_or, or_false, not_true_eq_false, not_false_eq_true, and_self, or_self, eq_self, ite_self, decide_true, decide_false, Bool.true_and, Bool.and_true, Bool.and_self, Bool.false_and, Int.sub_zero, Int.add_zero, Int.zero_add, ax_rw, if_pos, if_neg, ax_w32, ax_let, hob, ax_o_2, kr_2_0, kr_2_1, kr_2_2, kr_2_3, kr_2_4, ax_a_3, ax_a_4, ax_a_5, ax_a_6, ax_a_7, ax_o_42, kr_42_0, kr_42_1, e1, E1.1.2.1, e2, E2.1.1, e3]
          rw [aq_272_36]
          simp (disch := first | assumption | omega) only [ax_gt, ax_gi, Option.bind_some, ax_gbl, ax_gb2, ax_gd, Int.reduceEq, Int.reduceNe, Int.reduceLT, Int.reduceLE, Int.reduceAdd, Int.reduceSub, Int.reduceMul, Int.reduceNeg, reduceIte, ite_true, ite_false, true_and, and_true, false_and, and_false, true_or, or_true, false_or, or_false, not_true_eq_false, not_false_eq_true, and_self, or_self, eq_self, ite_self, decide_true, decide_false, Bool.true_and, Bool.and_true, Bool.and_self, Bool.false_and, Int.sub_zero, Int.add_zero, Int.zero_add, ax_rw, if_pos, if_neg, ax_w32, ax_let, hob, ax_o_2, kr_2_0, kr_2_1, kr_2_2, kr_2_3, kr_2_4, ax_a_3, ax_a_4, ax_a_5, ax_a_6, ax_a_7, ax_o_42, kr_42_0, kr_42_1, e4]
          rw [aq_272_47]
          simp (disch := first | assumption | omega) only [ax_gt, ax_gi, Option.bind_some, ax_gbl, ax_gb2, ax_gd, Int.reduceEq, Int.reduceNe, Int.reduceLT, Int.reduceLE, Int.reduceAdd, Int.reduceSub, Int.reduceMul, Int.reduceNeg, reduceIte, ite_true, ite_false, true_and, and_true, false_and, and_false, true_or, or_true, false_or, or_false, not_true_eq_false, not_false_eq_true, and_self, or_self, eq_self, ite_self, decide_true, decide_false, Bool.true_and, Bool.and_true, Bool.and_self, Bool.false_and, Int.sub_zero, Int.add_zero, Int.zero_add, ax_rw, if_pos, if_neg, ax_w32, ax_let, hob, ax_o_2, kr_2_0, kr_2_1, kr_2_2, kr_2_3, kr_2_4, ax_a_3, ax_a_4, ax_a_5, ax_a_6, ax_a_7, ax_o_42, kr_42_0, kr_42_1, e5, ax_b0, hf, e6, ht, e7, e8]
          exact ax_ok_some ⟨C8, HF_trans F04 F8⟩
    · rw [if_neg hf]
      simp (disch := first | assumption | omega) only [ax_gt, ax_gi, Option.bind_some, ax_gbl, ax_gb2, ax_gd, Int.reduceEq, Int.reduceNe, Int.reduceLT, Int.reduceLE, Int.reduceAdd, Int.reduceSub, Int.reduceMul, Int.reduceNeg, reduceIte, ite_true, ite_false, true_and, and_true, false_and, and_false, true_or, or_true, false_or, or_false, not_true_eq_false, not_false_eq_true, and_self, or_self, eq_self, ite_self, decide_true, decide_false, Bool.true_and, Bool.and_true, Bool.and_self, Bool.false_and, Int.sub_zero, Int.add_zero, Int.zero_add, ax_rw, if_pos, if_neg, ax_w32, ax_let, hob, ax_o_2, kr_2_0, kr_2_1, kr_2_2, kr_2_3, kr_2_4, ax_a_3, ax_a_4, ax_a_5, ax_a_6, ax_a_7, ax_o_42, kr_42_0, kr_42_1, e1, E1.1.2.1, e2, E2.1.1, e3]
      rw [aq_272_36]
      simp (disch := first | assumption | omega) only [ax_gt, ax_gi, Option.bind_some, ax_gbl, ax_gb2, ax_gd, Int.reduceEq, Int.reduceNe, Int.reduceLT, Int.reduceLE, Int.reduceAdd, Int.reduceSub, Int.reduceMul, Int.reduceNeg, reduceIte, ite_true, ite_false, true_and, and_true, false_and, and_false, true_or, or_true, false_or, or_false, not_true_eq_false, not_false_eq_true, and_self, or_self, eq_self, ite_self, decide_true, decide_false, Bool.true_and, Bool.and_true, Bool.and_self, Bool.false_and, Int.sub_zero, Int.add_zero, Int.zero_add, ax_rw, if_pos, if_neg, ax_w32, ax_let, hob, ax_o_2, kr_2_0, kr_2_1, kr_2_2, kr_2_3, kr_2_4, ax_a_3, ax_a_4, ax_a_5, ax_a_6, ax_a_7, ax_o_42, kr_42_0, kr_42_1, e4]
      rw [aq_272_47]
      simp (disch := first | assumption | omega) only [ax_gt, ax_gi, Option.bind_some, ax_gbl, ax_gb2, ax_gd, Int.reduceEq, Int.reduceNe, Int.reduceLT, Int.reduceLE, Int.reduceAdd, Int.reduceSub, Int.reduceMul, Int.reduceNeg, reduceIte, ite_true, ite_false, true_and, and_true, false_and, and_false, true_or, or_true, false_or, or_false, not_true_eq_false, not_false_eq_true, and_self, or_self, eq_self, ite_self, decide_true, decide_false, Bool.true_and, Bool.and_true, Bool.and_self, Bool.false_and, Int.sub_zero, Int.add_zero, Int.zero_add, ax_rw, if_pos, if_neg, ax_w32, ax_let, hob, ax_o_2, kr_2_0, kr_2_1, kr_2_2, kr_2_3, kr_2_4, ax_a_3, ax_a_4, ax_a_5, ax_a_6, ax_a_7, ax_o_42, kr_42_0, kr_42_1, e5, ax_b0, hf]
      exact ax_ok_some ⟨C4, F04⟩
  · have hw2 : w = 2 := by omega
    subst hw2
    simp only [Int.reduceEq, Int.reduceNe, Int.reduceLT, Int.reduceLE, Int.reduceAdd, Int.reduceSub, Int.reduceMul, Int.reduceNeg, reduceIte, ite_true, ite_false, true_and, and_true, false_and, and_false, true_or, or_true, false_or, or_false, not_true_eq_false, not_false_eq_true, and_self, or_self, eq_self, ite_self, decide_true, decide_false, Bool.true_and, Bool.and_true, Bool.and_self, Bool.false_and, Int.sub_zero, Int.add_zero, Int.zero_add]
    have e5 := fun d => c_25 (d := d) hK3 hh C3 m0 (by omega)
    by_cases hf : H3 (156 + m) = 0
    · rw [if_pos hf]
      obtain ⟨r6, M6, e6, C6, F6⟩ := c_121 (d := d) hK3 hh C3 m0 (by omega) t0 (by omega)
      simp (disch := first | assumption | omega) only [ax_gt, ax_gi, Option.bind_some, ax_gbl, ax_gb2, ax_gd, Int.reduceEq, Int.reduceNe, Int.reduceLT, Int.reduceLE, Int.reduceAdd, Int.reduceSub, Int.reduceMul, Int.reduceNeg, reduceIte, ite_true, ite_false, true_and, and_true, false_and, and_false, true_or, or_true, false_or, or_false, not_true_eq_false, not_false_eq_true, and_self, or_self, eq_self, ite_self, decide_true, decide_false, Bool.true_and, Bool.and_true, Bool.and_self, Bool.false_and, Int.sub_zero, Int.add_zero, Int.zero_add, ax_rw, if_pos, if_neg, ax_w32, ax_let, hob, ax_o_2, kr_2_0, kr_2_1, kr_2_2, kr_2_3, kr_2_4, ax_a_3, ax_a_4, ax_a_5, ax_a_6, ax_a_7, ax_o_42, kr_42_0, kr_42_1, e1, E1.1.2.1, e2, E2.1.1, e3]
      rw [aq_272_36]
      simp (disch := first | assumption | omega) only [ax_gt, ax_gi, Option.bind_some, ax_gbl, ax_gb2, ax_gd, Int.reduceEq, Int.reduceNe, Int.reduceLT, Int.reduceLE, Int.reduceAdd, Int.reduceSub, Int.reduceMul, Int.reduceNeg, reduceIte, ite_true, ite_false, true_and, and_true, false_and, and_false, true_or, or_true, false_or, or_false, not_true_eq_false, not_false_eq_true, and_self, or_self, eq_self, ite_self, decide_true, decide_false, Bool.true_and, Bool.and_true, Bool.and_self, Bool.false_and, Int.sub_zero, Int.add_zero, Int.zero_add, ax_rw, if_pos, if_neg, ax_w32, ax_let, hob, ax_o_2, kr_2_0, kr_2_1, kr_2_2, kr_2_3, kr_2_4, ax_a_3, ax_a_4, ax_a_5, ax_a_6, ax_a_7, ax_o_42, kr_42_0, kr_42_1]
      rw [aq_272_47]
      simp (disch := first | assumption | omega) only [ax_gt, ax_gi, Option.bind_some, ax_gbl, ax_gb2, ax_gd, Int.reduceEq, Int.reduceNe, Int.reduceLT, Int.reduceLE, Int.reduceAdd, Int.reduceSub, Int.reduceMul, Int.reduceNeg, reduceIte, ite_true, ite_false, true_and, and_true, false_and, and_false, true_or, or_true, false_or, or_false, not_true_eq_false, not_false_eq_true, and_self, or_self, eq_self, ite_self, decide_true, decide_false, Bool.true_and, Bool.and_true, Bool.and_self, Bool.false_and, Int.sub_zero, Int.add_zero, Int.zero_add, ax_rw, if_pos, if_neg, ax_w32, ax_let, hob, ax_o_2, kr_2_0, kr_2_1, kr_2_2, kr_2_3, kr_2_4, ax_a_3, ax_a_4, ax_a_5, ax_a_6, ax_a_7, ax_o_42, kr_42_0, kr_42_1, e5, ax_b0, hf, e6]
      exact ax_ok_some ⟨C6, HF_trans F03 F6⟩
    · rw [if_neg hf]
      simp (disch := first | assumption | omega) only [ax_gt, ax_gi, Option.bind_some, ax_gbl, ax_gb2, ax_gd, Int.reduceEq, Int.reduceNe, Int.reduceLT, Int.reduceLE, Int.reduceAdd, Int.reduceSub, Int.reduceMul, Int.reduceNeg, reduceIte, ite_true, ite_false, true_and, and_true, false_and, and_false, true_or, or_true, false_or, or_false, not_true_eq_false, not_false_eq_true, and_self, or_self, eq_self, ite_self, decide_true, decide_false, Bool.true_and, Bool.and_true, Bool.and_self, Bool.false_and, Int.sub_zero, Int.add_zero, Int.zero_add, ax_rw, if_pos, if_neg, ax_w32, ax_let, hob, ax_o_2, kr_2_0, kr_2_1, kr_2_2, kr_2_3, kr_2_4, ax_a_3, ax_a_4, ax_a_5, ax_a_6, ax_a_7, ax_o_42, kr_42_0, kr_42_1, e1, E1.1.2.1, e2, E2.1.1, e3]
      rw [aq_272_36]
      simp (disch := first | assumption | omega) only [ax_gt, ax_gi, Option.bind_some, ax_gbl, ax_gb2, ax_gd, Int.reduceEq, Int.reduceNe, Int.reduceLT, Int.reduceLE, Int.reduceAdd, Int.reduceSub, Int.reduceMul, Int.reduceNeg, reduceIte, ite_true, ite_false, true_and, and_true, false_and, and_false, true_or, or_true, false_or, or_false, not_true_eq_false, not_false_eq_true, and_self, or_self, eq_self, ite_self, decide_true, decide_false, Bool.true_and, Bool.and_true, Bool.and_self, Bool.false_and, Int.sub_zero, Int.add_zero, Int.zero_add, ax_rw, if_pos, if_neg, ax_w32, ax_let, hob, ax_o_2, kr_2_0, kr_2_1, kr_2_2, kr_2_3, kr_2_4, ax_a_3, ax_a_4, ax_a_5, ax_a_6, ax_a_7, ax_o_42, kr_42_0, kr_42_1]
      rw [aq_272_47]
      simp (disch := first | assumption | omega) only [ax_gt, ax_gi, Option.bind_some, ax_gbl, ax_gb2, ax_gd, Int.reduceEq, Int.reduceNe, Int.reduceLT, Int.reduceLE, Int.reduceAdd, Int.reduceSub, Int.reduceMul, Int.reduceNeg, reduceIte, ite_true, ite_false, true_and, and_true, false_and, and_false, true_or, or_true, false_or, or_false, not_true_eq_false, not_false_eq_true, and_self, or_self, eq_self, ite_self, decide_true, decide_false, Bool.true_and, Bool.and_true, Bool.and_self, Bool.false_and, Int.sub_zero, Int.add_zero, Int.zero_add, ax_rw, if_pos, if_neg, ax_w32, ax_let, hob, ax_o_2, kr_2_0, kr_2_1, kr_2_2, kr_2_3, kr_2_4, ax_a_3, ax_a_4, ax_a_5, ax_a_6, ax_a_7, ax_o_42, kr_42_0, kr_42_1, e5, ax_b0, hf]
      exact ax_ok_some ⟨C3, F03⟩
theorem c_122 (hK : ax_K M) (C : CH M 8 n H) (B : HB T H) (n6 : n ≤ 6) (n0 : 0 ≤ n) : am_Call d 122 [(2, 8), (0, n)] M = some (ax_fo (fun m s => s + H (156 + m)) (n - 0).toNat 0 0, M) := by
  have hh : (8 : Int) = 8 ∨ (8 : Int) = 425 := Or.inl rfl
  have hob := ob3 hh
  rw [aq_122]
  refine ax_loop (X := fun k s => am_Ex d 122 5 [(2, 8), (0, n), (0, s), (0, k)] [] M) (E := fun s => some (s, M)) (n := n) (fun k s => 0 ≤ k ∧ 0 ≤ s ∧ s ≤ k) ?_ ?_ _ _ _ (by omega) (by omega)
  · intro k a hk hl
    have e0 := fun d => c_25 (d := d) hK hh C hk.1 (by omega)
    have hb := B.2.1 k (by omega) (by omega)
    constructor
    · show am_Ex d 122 5 _ _ _ = _
      rw [aq_122_5]
      by_cases hf : H (156 + k) = 0
      · simp (disch := first | assumption | omega) only [ax_gt, ax_gi, Option.bind_some, ax_gbl, ax_gb2, ax_gd, Int.reduceEq, Int.reduceNe, Int.reduceLT, Int.reduceLE, Int.reduceAdd, Int.reduceSub, Int.reduceMul, Int.reduceNeg, reduceIte, ite_true, ite_false, true_and, and_true, false_and, and_false, true_or, or_true, false_or, or_false, not_true_eq_false, not_false_eq_true, and_self, or_self, eq_self, ite_self, decide_true, decide_false, Bool.true_and, Bool.and_true, Bool.and_self, Bool.false_and, Int.sub_zero, Int.add_zero, Int.zero_add, ax_rw, if_pos, if_neg, ax_w32, ax_let, hob, e0, ax_b0, hf]
      · have : H (156 + k) = 1 := by omega
        simp (disch := first | assumption | omega) only [ax_gt, ax_gi, Option.bind_some, ax_gbl, ax_gb2, ax_gd, Int.reduceEq, Int.reduceNe, Int.reduceLT, Int.reduceLE, Int.reduceAdd, Int.reduceSub, Int.reduceMul, Int.reduceNeg, reduceIte, ite_true, ite_false, true_and, and_true, false_and, and_false, true_or, or_true, false_or, or_false, not_true_eq_false, not_false_eq_true, and_self, or_self, eq_self, ite_self, decide_true, decide_false, Bool.true_and, Bool.and_true, Bool.and_self, Bool.false_and, Int.sub_zero, Int.add_zero, Int.zero_add, ax_rw, if_pos, if_neg, ax_w32, ax_let, hob, e0, ax_b0, this]
    · omega
  · intro a ha
    show am_Ex d 122 5 _ _ _ = _
    rw [aq_122_5, if_neg (by omega)]
end
