/-! A STEP -/
def stN (N : am_M) (H' : Int → Int) : am_M := (N.1, fun c i => if c = 448 then (if i = 5 then min (am_rd N 448 5) 29 + 1 else if 240 + 164 * min (am_rd N 448 5) 29 ≤ i ∧ i < 404 + 164 * min (am_rd N 448 5) 29 then am_rd N 448 (i - 180 - 164 * min (am_rd N 448 5) 29) else if 60 ≤ i ∧ i < 224 then H' (i - 60) else if am_rd N 448 5 = 30 ∧ 240 ≤ i ∧ i < 4996 then am_rd N 448 (i + 164) else am_rd N 448 i) else am_rd N c i)
theorem stN_rd {N : am_M} {H' : Int → Int} {c i : Int} : am_rd (stN N H') c i = if c = 448 then (if i = 5 then min (am_rd N 448 5) 29 + 1 else if 240 + 164 * min (am_rd N 448 5) 29 ≤ i ∧ i < 404 + 164 * min (am_rd N 448 5) 29 then am_rd N 448 (i - 180 - 164 * min (am_rd N 448 5) 29) else if 60 ≤ i ∧ i < 224 then H' (i - 60) else if am_rd N 448 5 = 30 ∧ 240 ≤ i ∧ i < 4996 then am_rd N 448 (i + 164) else am_rd N 448 i) else am_rd N c i := rfl
def RowEq (M N : am_M) : Prop := ∀ i, 0 ≤ i → i < 5160 → am_rd M 448 i = am_rd N 448 i
/-- what keeping a step does on the developers' side -/
def KP (M M' : am_M) : Prop := hCp M M' (57 + 6 * am_rd M 55 1) 8 ∧ am_rd M' 55 1 = (am_rd M 55 1 + 1) % 30 ∧ am_rd M' 55 2 = min (am_rd M 55 2 + 1) 30 ∧ ∀ c i, c ≠ 55 → (c < 57 + 6 * am_rd M 55 1 ∨ 62 + 6 * am_rd M 55 1 < c) → am_rd M' c i = am_rd M c i
theorem stN_low {N : am_M} {H' : Int → Int} (h5 : 0 ≤ am_rd N 448 5) {i : Int} (i0 : i < 60) (i5 : i ≠ 5) : am_rd (stN N H') 448 i = am_rd N 448 i := by
  rw [stN_rd, if_pos rfl, if_neg i5, if_neg (by omega), if_neg (by omega), if_neg (by omega)]
theorem stN_H {N : am_M} {H' : Int → Int} (h5 : 0 ≤ am_rd N 448 5) {j : Int} (j0 : 0 ≤ j) (j1 : j < 164) : am_rd (stN N H') 448 (60 + j) = H' j := by
  rw [stN_rd, if_pos rfl, if_neg (by omega), if_neg (by omega), if_pos (by omega)]
  congr 1
  omega
theorem stN_o {N : am_M} {H' : Int → Int} {c i : Int} (hc : c ≠ 448) : am_rd (stN N H') c i = am_rd N c i := by
  rw [stN_rd, if_neg hc]
/-- the developers' step -/
theorem cStep {M Ma M1 N : am_M} {H' : Int → Int} (a : RP M N 2 8 55 448) (k : KP M Ma) (F1 : HF Ma M1 8) (C1 : CH M1 8 (am_rd N 448 1) H') (B : HB (am_rd N 448 0) H') (hd : H' 162 ≤ 999) : RP M1 (stN N H') 2 8 55 448 := by
  obtain ⟨aG, aB, aH, s1, s2, s3⟩ := a
  obtain ⟨k1, k2, k3, k4⟩ := k
  have c5 := aB.1.2.2.2.2.2.1
  have low : ∀ i, i < 60 → i ≠ 5 → am_rd (stN N H') 448 i = am_rd N 448 i := fun i h0 h5 => stN_low c5.1 h0 h5
  have g5 : am_rd (stN N H') 448 5 = min (am_rd N 448 5) 29 + 1 := by rw [stN_rd, if_pos rfl, if_pos rfl]
  refine ⟨RG_same aG (fun x i h1 h2 => (F1 x i (by omega) (by omega) (by omega)).trans (k4 x i (by omega) (by omega))) (fun i _ h1 h2 => low i h1 h2), BG_same5 aB (fun i _ h1 h2 => low i h1 h2) (by rw [g5]; omega), ⟨?_, ?_, ?_⟩, ?_, ?_, ?_⟩
  · rw [low 1 (by omega) (by omega)]
    exact CH_congr C1 fun j j0 j1 => (stN_H c5.1 j0 j1).symm
  · rw [low 0 (by omega) (by omega)]
    exact HB_congr B fun j j0 j1 => stN_H c5.1 j0 j1
  · have := stN_H (H' := H') c5.1 (j := 162) (by omega) (by omega)
    simp only [Int.reduceEq, Int.reduceNe, Int.reduceLT, Int.reduceLE, Int.reduceAdd, Int.reduceSub, Int.reduceMul, Int.reduceNeg, reduceIte, ite_true, ite_false, true_and, and_true, false_and, and_false, true_or, or_true, false_or, or_false, not_true_eq_false, not_false_eq_true, and_self, or_self, eq_self, ite_self, decide_true, decide_false, Bool.true_and, Bool.and_true, Bool.and_self, Bool.false_and, Int.add_zero, Int.zero_add] at this
    rw [this]; exact hd
  · rw [F1 55 1 (by omega) (by omega) (by omega), k2]; omega
  · rw [F1 55 2 (by omega) (by omega) (by omega), k3, g5, s2]; omega
  · intro k k0 kk
    rw [g5] at kk
    rw [F1 55 1 (by omega) (by omega) (by omega), k2, g5, low 1 (by omega) (by omega), low 0 (by omega) (by omega)]
    generalize hq : am_rd M 55 1 = q at *
    generalize hc : am_rd N 448 5 = c at *
    by_cases hl : k = min c 29
    · -- the new one
      have e : ((q + 1) % 30 + 30 - (min c 29 + 1) + k) % 30 = q := by omega
      rw [e]
      have C0 := hCp_CH k1 aH.1
      have C2 : CH M1 (55 + 2 + 6 * q) (am_rd N 448 1) (fl N 448 60) := CH_same (show CH Ma (55 + 2 + 6 * q) (am_rd N 448 1) (fl N 448 60) from by
        have : (55 : Int) + 2 + 6 * q = 57 + 6 * q := by omega
        rw [this]; exact C0) fun x i h1 h2 => F1 x i (by omega) (by omega) (by omega)
      have row : ∀ j, 0 ≤ j → j < 164 → fl (stN N H') 448 (240 + 164 * k) j = fl N 448 60 j := by
        intro j j0 j1
        show am_rd (stN N H') 448 (240 + 164 * k + j) = am_rd N 448 (60 + j)
        rw [stN_rd, if_pos rfl, hc, if_neg (by omega), if_pos (by omega)]
        congr 1; omega
      refine ⟨CH_congr C2 fun j j0 j1 => (row j j0 j1).symm, HB_congr aH.2.1 row, ?_⟩
      have := row 162 (by omega) (by omega)
      have h1 : am_rd (stN N H') 448 (240 + 164 * k + 162) = am_rd N 448 (60 + 162) := this
      rw [show 402 + 164 * k = 240 + 164 * k + 162 by omega, h1]
      exact aH.2.2
    · -- an old one
      have hk : ∃ k', (0 ≤ k' ∧ k' < c) ∧ ((q + 1) % 30 + 30 - (min c 29 + 1) + k) % 30 = (q + 30 - c + k') % 30 ∧ (q + 30 - c + k') % 30 ≠ q ∧ ∀ j, 0 ≤ j → j < 164 → am_rd (stN N H') 448 (240 + 164 * k + j) = am_rd N 448 (240 + 164 * k' + j) := by
        by_cases h30 : c = 30
        · refine ⟨k + 1, by omega, by omega, by omega, fun j j0 j1 => ?_⟩
          rw [stN_rd, if_pos rfl, hc, if_neg (by omega), if_neg (by omega), if_neg (by omega), if_pos (by omega)]
          congr 1; omega
        · refine ⟨k, by omega, by omega, by omega, fun j j0 j1 => ?_⟩
          rw [stN_rd, if_pos rfl, hc, if_neg (by omega), if_neg (by omega), if_neg (by omega), if_neg (by omega)]
      obtain ⟨k', h1, h2, h3, row⟩ := hk
      obtain ⟨b1, b2, b3⟩ := s3 k' h1.1 (by omega)
      rw [h2]
      refine ⟨CH_congr (CH_same b1 fun x i x0 x1 => (F1 x i (by omega) (by omega) (by omega)).trans (k4 x i (by omega) (by omega))) fun j j0 j1 => (row j j0 j1).symm, HB_congr b2 row, ?_⟩
      rw [show 402 + 164 * k = 240 + 164 * k + 162 by omega, row 162 (by omega) (by omega), show 240 + 164 * k' + 162 = 402 + 164 * k' by omega]
      exact b3
/-- what keeping a step does on the model's side -/
def KM (M M' : am_M) : Prop := ∀ c i, am_rd M' c i = if c = 448 then (if i = 5 then min (am_rd M 448 5) 29 + 1 else if 240 + 164 * min (am_rd M 448 5) 29 ≤ i ∧ i < 404 + 164 * min (am_rd M 448 5) 29 then am_rd M 448 (i - 180 - 164 * min (am_rd M 448 5) 29) else if am_rd M 448 5 = 30 ∧ 240 ≤ i ∧ i < 4996 then am_rd M 448 (i + 164) else am_rd M 448 i) else am_rd M c i
theorem KM_H {M M' : am_M} (k : KM M M') (h5 : 0 ≤ am_rd M 448 5) {j : Int} (j0 : 0 ≤ j) (j1 : j < 164) : am_rd M' 448 (60 + j) = am_rd M 448 (60 + j) := by
  rw [k, if_pos rfl, if_neg (by omega), if_neg (by omega), if_neg (by omega)]
theorem KM_low {M M' : am_M} (k : KM M M') (h5 : 0 ≤ am_rd M 448 5) {i : Int} (i0 : i < 60) (i5 : i ≠ 5) : am_rd M' 448 i = am_rd M 448 i := by
  rw [k, if_pos rfl, if_neg i5, if_neg (by omega), if_neg (by omega)]
theorem KM_o {M M' : am_M} (k : KM M M') {c i : Int} (hc : c ≠ 448) : am_rd M' c i = am_rd M c i := by
  rw [k, if_neg hc]
/-- the model's step -/
theorem mStep {M Mb M2 N : am_M} {H' : Int → Int} (e : RowEq M N) (h5 : 0 ≤ am_rd N 448 5 ∧ am_rd N 448 5 ≤ 30) (k : KM M Mb) (F2 : FH M2 448 60 H') (f2 : ∀ i, ¬ (60 ≤ i ∧ i < 224) → am_rd M2 448 i = am_rd Mb 448 i) : RowEq M2 (stN N H') := by
  intro i i0 i1
  have e5 := e 5 (by omega) (by omega)
  by_cases h : 60 ≤ i ∧ i < 224
  · have := F2 (i - 60) (by omega) (by omega)
    rw [show 60 + (i - 60) = i by omega] at this
    rw [this, stN_rd, if_pos rfl, if_neg (by omega), if_neg (by omega), if_pos h]
  · rw [f2 i h, k, stN_rd, if_pos rfl, if_pos rfl, e5]
    by_cases c5 : i = 5
    · rw [if_pos c5, if_pos c5]
    rw [if_neg c5, if_neg c5]
    by_cases c6 : 240 + 164 * min (am_rd N 448 5) 29 ≤ i ∧ i < 404 + 164 * min (am_rd N 448 5) 29
    · rw [if_pos c6, if_pos c6]; exact e _ (by omega) (by omega)
    rw [if_neg c6, if_neg c6, if_neg h]
    by_cases c7 : am_rd N 448 5 = 30 ∧ 240 ≤ i ∧ i < 4996
    · rw [if_pos c7, if_pos c7]; exact e _ (by omega) (by omega)
    · rw [if_neg c7, if_neg c7]; exact e _ (by omega) (by omega)
/-- what a deed of the developers' leaves alone; of the model's -/
def DF (M M' : am_M) : Prop := ∀ c i, (c < 8 ∨ 13 < c) → (c < 55 ∨ 236 < c) → c ≠ 40 → c ≠ 41 → am_rd M' c i = am_rd M c i
def DG (M M' : am_M) : Prop := ∀ c i, c ≠ 448 → c < 459 → ¬ (c = 447 ∧ i = 47) → am_rd M' c i = am_rd M c i
theorem DF_refl {M : am_M} : DF M M := fun _ _ _ _ _ _ => rfl
theorem DF_trans {M M1 M2 : am_M} (a : DF M M1) (b : DF M1 M2) : DF M M2 := fun c i h1 h2 h3 h4 => (b c i h1 h2 h3 h4).trans (a c i h1 h2 h3 h4)
theorem DG_trans {M M1 M2 : am_M} (a : DG M M1) (b : DG M1 M2) : DG M M2 := fun c i h1 h2 h3 => (b c i h1 h2 h3).trans (a c i h1 h2 h3)
theorem DG_refl {M : am_M} : DG M M := fun _ _ _ _ _ => rfl
theorem KP_DF {M M' : am_M} (k : KP M M') (q0 : 0 ≤ am_rd M 55 1) (q1 : am_rd M 55 1 < 30) : DF M M' := fun c i h1 h2 _ _ => k.2.2.2 c i (by omega) (by omega)
theorem HF_DF {M M' : am_M} (k : HF M M' 8) : DF M M' := fun c i h1 h2 h3 h4 => k c i (by omega) h3 h4
theorem KM_DG {M M' : am_M} (k : KM M M') : DG M M' := fun c i h1 _ _ => KM_o k h1
theorem RF_DG {M M' : am_M} (k : RF M M') : DG M M' := fun c i h1 h2 h3 => k c i (by omega) (by omega) (by omega) h3 (by omega)
theorem RR_fin {M M1 M2 N : am_M} (a : RR M) (p : RP M1 N 2 8 55 448) (f : DF M M1) (g : DG M1 M2) (e : RowEq M2 N) (e3 : am_rd N 448 3 = am_rd M 448 3) (k : ax_K M2) : RR M2 := by
  refine ⟨k, RP_same p (fun x i h => g x i (by omega) (by omega) (by omega)) (fun i h0 h1 => e i h0 h1), RP_same a.2.2.1 (fun x i h => (g x i (by omega) (by omega) (by omega)).trans (f x i (by omega) (by omega) (by omega) (by omega))) (fun i _ _ => (g 449 i (by omega) (by omega) (by omega)).trans (f 449 i (by omega) (by omega) (by omega) (by omega))), RT_same a.2.2.2.1 (fun x i h => (g x i (by omega) (by omega) (by omega)).trans (f x i (by omega) (by omega) (by omega) (by omega))), RX_same a.2.2.2.2 (fun x i h => ?_)⟩
  by_cases h8 : x = 448
  · have hi : i = 3 := by omega
    subst h8 hi
    rw [e 3 (by omega) (by omega), e3]
  · exact (g x i h8 (by omega) (by omega)).trans (f x i (by omega) (by omega) (by omega) (by omega))
section
variable {M : am_M} {d : Nat} {T n al m t k : Int} {P W H : Int → Int} {cd : Int → Option (List (Int × Int))}
theorem m_197 {v : Int} (hK : ax_K M) (F : FH M 448 60 H) (B : HB T H) (m0 : 0 ≤ m) (m1 : m < 6) (t0 : 0 ≤ t) (t1 : t < 8) (v0 : 1 ≤ v) (v1 : v ≤ 99) : ax_ok (am_Call d 197 [(2, 447), (0, m), (0, t), (0, v)] M) (fun _ M' => FH M' 448 60 (hR H m t (H (8 * m + t) + v)) ∧ RF M M') := by
  have bb := B.1 (8 * m + t) (by omega) (by omega)
  obtain ⟨r1, M1, e1, C1, F1⟩ := m_88 (d := d) hK F
  have hK1 := ax_Kp e1 hK rfl
  have g1 := C1.1 (8 * m + t) (by omega) (by omega)
  obtain ⟨r2, M2, e2, C2, F2, -⟩ := m_157 (d := d) (v := H (8 * m + t) + v) hK1 C1 m0 m1 t0 t1 (by omega) (by omega)
  have hK2 := ax_Kp e2 hK1 rfl
  obtain ⟨r3, M3, e3, g2, g3⟩ := m_89 (d := d) hK2 C2
  rw [aq_197]
  simp (disch := first | assumption | omega) only [ax_gt, ax_gi, Option.bind_some, ax_gbl, ax_gb2, ax_gd, Int.reduceEq, Int.reduceNe, Int.reduceLT, Int.reduceLE, Int.reduceAdd, Int.reduceSub, Int.reduceMul, Int.reduceNeg, reduceIte, ite_true, ite_false, true_and, and_true, false_and, and_false, true_or, or_true, false_or, or_false, not_true_eq_false, not_false_eq_true, and_self, or_self, eq_self, ite_self, decide_true, decide_false, Bool.true_and, Bool.and_true, Bool.and_self, Bool.false_and, Int.add_zero, Int.zero_add, ax_rw, if_pos, if_neg, ax_w32, ax_o_447, ax_a_472, kr_447_41, e1, g1, e2, e3]
  exact ax_ok_some (m_keep F (NF_trans F1 F2) g2 g3 (by simp (disch := omega) only [hR, hu, if_neg]))
theorem m_266 (hK : ax_K M) (F : FH M 448 60 H) (E : ME M T n al P W cd) (S : ES T n al P W cd) (B : HB T H) (m0 : 0 ≤ m) (m1 : m < 6) (t0 : 0 ≤ t) (t1 : t < T) (k0 : 1 ≤ k) (k1 : k ≤ 99) : ax_ok (am_Call d 266 [(2, 447), (0, m), (0, t), (0, k)] M) (fun _ M' => FH M' 448 60 (hM P W cd m t k H) ∧ RF M M') := by
  have hT := S.1
  obtain ⟨r1, M1, e1, C1, F1⟩ := m_88 (d := d) hK F
  have hK1 := ax_Kp e1 hK rfl
  obtain ⟨r2, M2, e2, C2, F2⟩ := m_254 (d := d) hK1 C1 (NF_ME E F1) S B m0 m1 t0 t1 k0 k1
  have hK2 := ax_Kp e2 hK1 rfl
  obtain ⟨r3, M3, e3, g2, g3⟩ := m_89 (d := d) hK2 C2
  rw [aq_266]
  simp (disch := first | assumption | omega) only [ax_gt, ax_gi, Option.bind_some, ax_gbl, ax_gb2, ax_gd, Int.reduceEq, Int.reduceNe, Int.reduceLT, Int.reduceLE, Int.reduceAdd, Int.reduceSub, Int.reduceMul, Int.reduceNeg, reduceIte, ite_true, ite_false, true_and, and_true, false_and, and_false, true_or, or_true, false_or, or_false, not_true_eq_false, not_false_eq_true, and_self, or_self, eq_self, ite_self, decide_true, decide_false, Bool.true_and, Bool.and_true, Bool.and_self, Bool.false_and, Int.add_zero, Int.zero_add, ax_o_447, e1, e2, e3]
  refine ax_ok_some (m_keep F (NF_trans F1 F2) g2 g3 ?_)
  unfold hM
  split
  · simp (disch := omega) only [hW, hu, if_neg]
  · simp (disch := omega) only [hR, hW, hu, if_neg]
theorem m_68' (hK : ax_K M) (b : mb_B M) : ax_ok (am_Call d 68 [(2, 447)] M) (fun _ M' => KM M M') := m_68 hK b.2.2.2.2.2.1 b.2.2.2.2.2.2 rfl
end
