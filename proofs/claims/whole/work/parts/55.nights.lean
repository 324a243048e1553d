/-! nights, winters -/
section
variable {M N : am_M} {d : Nat} {T n al : Int} {P W H : Int → Int} {cd : Int → Option (List (Int × Int))}
theorem KP_RP (d : Nat) (hK : ax_K M) (p : RP M N 2 8 55 448) : ∃ r Ma, am_Call d 134 [(2, 55), (2, 8)] M = some (r, Ma) ∧ ax_K Ma ∧ KP M Ma ∧ CH Ma 8 (am_rd N 448 1) (fl N 448 60) ∧ (∀ c i, c ≤ 7 ∨ (14 ≤ c ∧ c ≤ 38) → am_rd Ma c i = am_rd M c i) ∧ DF M Ma := by
  have q := p.2.2.2.1
  have s := p.2.2.2.2.1
  have c5 := p.2.1.1.2.2.2.2.2.1
  obtain ⟨r, Ma, e, h⟩ := c_134 (d := d) hK q.1 q.2 (by rw [s]; exact c5.1) (by rw [s]; exact c5.2)
  exact ⟨r, Ma, e, ax_Kp e hK rfl, h, CH_same p.2.2.1.1 fun c i h1 h2 => h.2.2.2 c i (by omega) (by omega), fun c i hc => h.2.2.2 c i (by omega) (by omega), KP_DF h q.1 q.2⟩
/-- a night of all, on the row -/
def niN (T n al : Int) (P W : Int → Int) (cd : Int → Option (List (Int × Int))) (N : am_M) : am_M := stN N (hNi T al P W cd 0 n (fl N 448 60))
/-- what a row is known to be -/
def NI (T n : Int) (N : am_M) : Prop := BG N 448 ∧ am_rd N 448 0 = T ∧ am_rd N 448 1 = n ∧ HB T (fl N 448 60)
theorem hNi_x (S : ES T n al P W cd) {j : Int} (hj : j = 163) : hNi T al P W cd 0 n H j = H j := by
  subst hj
  have hn := S.2.1
  have h1 := hN1_o (H := H) S (Int.le_refl 0) (by omega : n ≤ 6) (j := 163) (by omega)
  unfold hNi
  try dsimp only
  split
  · refine ax_fo_inv (P := fun _ (H' : Int → Int) => H' 163 = H 163) _ _ _ (fun m H' m0 m1 hH => ?_) (by rw [hu_ne (by omega)]; exact h1)
    unfold hTf hT
    split
    · split
      · rw [hu_ne (by omega)]; exact hH
      · exact hH
    · exact hH
  · rw [hu_ne (by omega)]; exact h1
theorem NI_st (S : ES T n al P W cd) (a : NI T n N) (hd : am_rd N 448 222 < 1300) : NI T n (niN T n al P W cd N) ∧ am_rd (niN T n al P W cd N) 448 222 = am_rd N 448 222 + 1 ∧ ∀ i, i < 60 → i ≠ 5 → am_rd (niN T n al P W cd N) 448 i = am_rd N 448 i := by
  obtain ⟨b, h0, h1, hB⟩ := a
  have hn := S.2.1
  have c5 := b.1.2.2.2.2.2.1
  have low : ∀ i, i < 60 → i ≠ 5 → am_rd (niN T n al P W cd N) 448 i = am_rd N 448 i := fun i x y => stN_low c5.1 x y
  have day : fl N 448 60 162 = am_rd N 448 222 := fl_at (by omega)
  have B' := HB_Ni S hB (Int.le_refl 0) (by omega : n ≤ 6) (by rw [day]; exact hd)
  have e5 : am_rd (niN T n al P W cd N) 448 5 = min (am_rd N 448 5) 29 + 1 := by unfold niN; rw [stN_rd, if_pos rfl, if_pos rfl]
  refine ⟨⟨BG_same5 b (fun i _ x y => low i x y) (by rw [e5]; omega), (low 0 (by omega) (by omega)).trans h0, (low 1 (by omega) (by omega)).trans h1, HB_congr B' fun j j0 j1 => stN_H c5.1 j0 j1⟩, ?_, low⟩
  have h := stN_H (H' := hNi T al P W cd 0 n (fl N 448 60)) c5.1 (j := 162) (by omega) (by omega)
  rw [hNi_day S (Int.le_refl 0) (by omega : n ≤ 6), day] at h
  exact h
theorem c_night (hK : ax_K M) (p : RP M N 2 8 55 448) (E : CE M T n al P W cd) (S : ES T n al P W cd) (a : NI T n N) (hd : am_rd N 448 222 < 999) : ∃ r1 Ma r2 M1, am_Call d 134 [(2, 55), (2, 8)] M = some (r1, Ma) ∧ ax_K Ma ∧ am_rd Ma 2 6 = n ∧ am_Call d 256 [(2, 42), (2, 8), (0, 0), (0, n)] Ma = some (r2, M1) ∧ ax_K M1 ∧ RP M1 (niN T n al P W cd N) 2 8 55 448 ∧ CE M1 T n al P W cd ∧ DF M M1 := by
  obtain ⟨b, h0, h1, hB⟩ := a
  have hn := S.2.1
  have day : fl N 448 60 162 = am_rd N 448 222 := fl_at (by omega)
  obtain ⟨r1, Ma, e1, K1, k1, C1, g1, D1⟩ := KP_RP d hK p
  rw [h1] at C1
  have E1 := CE_same E g1
  obtain ⟨r2, M1, e2, C2, F2⟩ := c_256 (d := d) K1 h88 C1 E1 S hB (a := 0) (b := n) (by omega) (by omega) (by omega) (by omega)
  refine ⟨r1, Ma, r2, M1, e1, K1, E1.1.2.1, e2, ax_Kp e2 K1 rfl, ?_, HF_CE h88 E1 F2, DF_trans D1 (HF_DF F2)⟩
  refine cStep p k1 F2 (by rw [h1]; exact C2) (by rw [h0]; exact HB_Ni S hB (Int.le_refl 0) (by omega : n ≤ 6) (by omega)) ?_
  rw [hNi_day S (Int.le_refl 0) (by omega : n ≤ 6), day]
  omega
theorem RowEq_mB {M' : am_M} (e : RowEq M' N) (b : BG N 448) : mb_B M' := by
  unfold mb_B
  rw [e 0 (by omega) (by omega), e 1 (by omega) (by omega), e 2 (by omega) (by omega), e 6 (by omega) (by omega), e 3 (by omega) (by omega), e 5 (by omega) (by omega)]
  exact ⟨b.1.1, b.1.2.1, b.1.2.2.1, b.1.2.2.2.2.2.2.1, b.1.2.2.2.1, b.1.2.2.2.2.2.1⟩
theorem RowEq_FH {M' : am_M} (e : RowEq M' N) : FH M' 448 60 (fl N 448 60) := fun j j0 j1 => e _ (by omega) (by omega)
theorem m_night (hK : ax_K M) (e : RowEq M N) (E : ME M T n al P W cd) (S : ES T n al P W cd) (a : NI T n N) (hd : am_rd N 448 222 < 999) : ∃ r1 Ma r2 M1, am_Call d 68 [(2, 447)] M = some (r1, Ma) ∧ am_Call d 296 [(2, 447)] Ma = some (r2, M1) ∧ ax_K M1 ∧ RowEq M1 (niN T n al P W cd N) ∧ ME M1 T n al P W cd ∧ DG M M1 := by
  have mB := RowEq_mB e a.1
  have h5 := mB.2.2.2.2.2
  obtain ⟨b, h0, h1, hB⟩ := a
  have day : fl N 448 60 162 = am_rd N 448 222 := fl_at (by omega)
  obtain ⟨r1, Ma, e1, k1⟩ := m_68' (d := d) hK mB
  have K1 := ax_Kp e1 hK rfl
  have E1 := KM_ME E k1 h5.1
  obtain ⟨r2, M1, e2, F2, f2⟩ := m_296 (d := d) K1 (KM_FH (RowEq_FH e) k1 h5.1) E1 S hB (by omega) (hNi_x S rfl)
  refine ⟨r1, Ma, r2, M1, e1, e2, ax_Kp e2 K1 rfl, mStep e b.1.2.2.2.2.2.1 k1 F2 (fun i hi => f2 448 i (by omega) (by omega) (by omega) (by omega) (by omega)), ME_same E1 (fun c i h => f2 c i (by omega) (by omega) (by omega) (by omega) (by omega)), DG_trans (KM_DG k1) (RF_DG f2)⟩
/-- k nights on the row -/
def niK (T n al : Int) (P W : Int → Int) (cd : Int → Option (List (Int × Int))) (k : Int) (N : am_M) : am_M := ax_fo (fun _ N => niN T n al P W cd N) (k - 0).toNat 0 N
/-- passNights -/
theorem c_277 {k q : Int} (hK : ax_K M) (p : RP M N 2 8 55 448) (E : CE M T n al P W cd) (S : ES T n al P W cd) (a : NI T n N) (hd : am_rd N 448 222 ≤ 999) (k0 : 1 ≤ k) (k1 : k ≤ 60) (hq : q = min k (999 - am_rd N 448 222)) : ax_ok (am_Call d 277 [(2, 1), (0, k)] M) (fun r M' => r = ax_b (q = k) ∧ ax_K M' ∧ RP M' (niK T n al P W cd q N) 2 8 55 448 ∧ CE M' T n al P W cd ∧ DF M M' ∧ NI T n (niK T n al P W cd q N) ∧ am_rd (niK T n al P W cd q N) 448 222 = am_rd N 448 222 + q ∧ ∀ i, i < 60 → i ≠ 5 → am_rd (niK T n al P W cd q N) 448 i = am_rd N 448 i) := by
  have day : am_rd M 8 6 = am_rd N 448 222 := p.2.2.1.1.2.2.2.2.2.2.2.1.trans (fl_at (by omega))
  have d0 := a.2.2.2.2.2.1
  have d1 : fl N 448 60 162 = am_rd N 448 222 := fl_at (by omega)
  rw [aq_277]
  simp (disch := first | assumption | omega) only [ax_gt, ax_gi, Option.bind_some, ax_gbl, ax_gb2, ax_gd, Int.reduceEq, Int.reduceNe, Int.reduceLT, Int.reduceLE, Int.reduceAdd, Int.reduceSub, Int.reduceMul, Int.reduceNeg, reduceIte, ite_true, ite_false, true_and, and_true, false_and, and_false, true_or, or_true, false_or, or_false, not_true_eq_false, not_false_eq_true, and_self, or_self, eq_self, ite_self, decide_true, decide_false, Bool.true_and, Bool.and_true, Bool.and_self, Bool.false_and, Int.add_zero, Int.zero_add, ax_rw, if_pos, if_neg, ax_w32, ax_let, ax_o_1, kr_1_0, kr_1_1, kr_1_2, kr_1_3, kr_1_4, kr_1_5, kr_1_6, kr_1_7, kr_1_9, kr_1_10, kr_1_11, kr_1_12, kr_1_13, kr_1_14, ax_a_419, ax_o_8, kr_8_0, kr_8_1, kr_8_2, kr_8_3, kr_8_4, ax_a_9, ax_a_10, ax_a_11, ax_a_12, ax_a_13, day]
  rw [← hq]
  have q0 : 0 ≤ q := by omega
  refine ax_loopQ (σ := am_M) (X := fun i _ m' => am_Ex d 277 11 [(2, 1), (0, k), (0, q), (0, i)] [] m') (n := q) (fun i N' m' => 0 ≤ i ∧ ax_K m' ∧ RP m' N' 2 8 55 448 ∧ CE m' T n al P W cd ∧ DF M m' ∧ NI T n N' ∧ am_rd N' 448 222 = am_rd N 448 222 + i ∧ (∀ i, i < 60 → i ≠ 5 → am_rd N' 448 i = am_rd N 448 i) ∧ ax_fo (fun _ N => niN T n al P W cd N) (q - i).toNat i N' = niK T n al P W cd q N) ?_ ?_ (q - 0).toNat 0 N M (by omega) ⟨by omega, hK, p, E, DF_refl, a, by omega, fun _ _ _ => rfl, rfl⟩
  · intro i N' m' ⟨i0, K', p', E', D', a', y', l', hs⟩ i1 hnext
    obtain ⟨r1, Ma, r2, M1, e1, Ka, g6, e2, K1, p1, E1, D1⟩ := c_night (d := d) K' p' E' S a' (by omega)
    obtain ⟨a1, y1, l1⟩ := NI_st S a' (by omega)
    show ax_ok (am_Ex d 277 11 _ _ _) _
    rw [aq_277_11]
    simp (disch := first | assumption | omega) only [ax_gt, ax_gi, Option.bind_some, ax_gbl, ax_gb2, ax_gd, Int.reduceEq, Int.reduceNe, Int.reduceLT, Int.reduceLE, Int.reduceAdd, Int.reduceSub, Int.reduceMul, Int.reduceNeg, reduceIte, ite_true, ite_false, true_and, and_true, false_and, and_false, true_or, or_true, false_or, or_false, not_true_eq_false, not_false_eq_true, and_self, or_self, eq_self, ite_self, decide_true, decide_false, Bool.true_and, Bool.and_true, Bool.and_self, Bool.false_and, Int.add_zero, Int.zero_add, ax_rw, if_pos, if_neg, ax_o_1, kr_1_0, kr_1_1, kr_1_2, kr_1_3, kr_1_4, kr_1_5, kr_1_6, kr_1_7, kr_1_9, kr_1_10, kr_1_11, kr_1_12, kr_1_13, kr_1_14, ax_a_419, ax_o_2, kr_2_0, kr_2_1, kr_2_2, kr_2_3, kr_2_4, ax_a_3, ax_a_4, ax_a_5, ax_a_6, ax_a_7, ax_o_8, kr_8_0, kr_8_1, kr_8_2, kr_8_3, kr_8_4, ax_a_9, ax_a_10, ax_a_11, ax_a_12, ax_a_13, ax_o_55, kr_55_0, ax_q_56, e1, g6, e2]
    rw [ax_let, ax_w32 (by omega) (by omega)]
    exact hnext _ M1 ⟨by omega, K1, p1, E1, DF_trans D' D1, a1, by omega, fun j h1 h2 => (l1 j h1 h2).trans (l' j h1 h2), by rw [← hs, ax_fo_s i1]⟩
  · intro N' m' ⟨i0, K', p', E', D', a', y', l', hs⟩
    rw [ax_fo_e (Int.le_refl _)] at hs
    subst hs
    show ax_ok (am_Ex d 277 11 _ _ _) _
    rw [aq_277_11, if_neg (by omega)]
    have : (if q = k then some ((1 : Int), m') else some (0, m')) = some (ax_b (q = k), m') := by unfold ax_b; split <;> rfl
    rw [this]
    exact ax_ok_some ⟨rfl, K', p', E', D', a', y', l'⟩
/-- the model's nights -/
theorem m_301l {k : Int} (hK : ax_K M) (e : RowEq M N) (E : ME M T n al P W cd) (S : ES T n al P W cd) (a : NI T n N) (k0 : 1 ≤ k) (hd : am_rd N 448 222 + k ≤ 999) : ax_ok (am_Ex d 301 19 [(2, 447), (0, k), (0, 0)] [] M) (fun r M' => r = ax_fo (fun m s => s + fl (niK T n al P W cd k N) 448 60 (156 + m)) (n - 0).toNat 0 0 ∧ RowEq M' (niK T n al P W cd k N) ∧ DG M M') := by
  have d0 := a.2.2.2.2.2.1
  have d1 : fl N 448 60 162 = am_rd N 448 222 := fl_at (by omega)
  have hn := S.2.1
  refine ax_loopQ (σ := am_M) (X := fun i _ m' => am_Ex d 301 19 [(2, 447), (0, k), (0, i)] [] m') (n := k) (fun i N' m' => 0 ≤ i ∧ ax_K m' ∧ RowEq m' N' ∧ ME m' T n al P W cd ∧ DG M m' ∧ NI T n N' ∧ am_rd N' 448 222 = am_rd N 448 222 + i ∧ ax_fo (fun _ N => niN T n al P W cd N) (k - i).toNat i N' = niK T n al P W cd k N) ?_ ?_ (k - 0).toNat 0 N M (by omega) ⟨by omega, hK, e, E, DG_refl, a, by omega, rfl⟩
  · intro i N' m' ⟨i0, K', e', E', D', a', y', hs⟩ i1 hnext
    obtain ⟨r1, Ma, r2, M1, e1, e2, K1, p1, E1, D1⟩ := m_night (d := d) K' e' E' S a' (by omega)
    obtain ⟨a1, y1, l1⟩ := NI_st S a' (by omega)
    show ax_ok (am_Ex d 301 19 _ _ _) _
    rw [aq_301_19]
    simp (disch := first | assumption | omega) only [ax_gt, ax_gi, Option.bind_some, ax_gbl, ax_gb2, ax_gd, Int.reduceEq, Int.reduceNe, Int.reduceLT, Int.reduceLE, Int.reduceAdd, Int.reduceSub, Int.reduceMul, Int.reduceNeg, reduceIte, ite_true, ite_false, true_and, and_true, false_and, and_false, true_or, or_true, false_or, or_false, not_true_eq_false, not_false_eq_true, and_self, or_self, eq_self, ite_self, decide_true, decide_false, Bool.true_and, Bool.and_true, Bool.and_self, Bool.false_and, Int.add_zero, Int.zero_add, ax_rw, if_pos, if_neg, ax_o_447, e1, e2]
    rw [ax_let, ax_w32 (by omega) (by omega)]
    exact hnext _ M1 ⟨by omega, K1, p1, E1, DG_trans D' D1, a1, by omega, by rw [← hs, ax_fo_s i1]⟩
  · intro N' m' ⟨i0, K', e', E', D', a', y', hs⟩
    rw [ax_fo_e (Int.le_refl _)] at hs
    subst hs
    have f1 : ∀ m, 0 ≤ m → m < 6 → am_rd m' 448 (216 + m) = fl (niK T n al P W cd k N) 448 60 (156 + m) := fun m m0 m1 => (e' _ (by omega) (by omega)).trans (fl_at (by omega)).symm
    have e91 := m_91 (d := d) K' (RowEq_mB e' a'.1) (fun m m0 m1 => by rw [f1 m m0 m1]; exact (a'.2.2.2.2.1 m m0 m1).2.2)
    rw [show am_rd m' 448 1 = n from (e' 1 (by omega) (by omega)).trans a'.2.2.1] at e91
    show ax_ok (am_Ex d 301 19 _ _ _) _
    rw [aq_301_19]
    simp (disch := first | assumption | omega) only [ax_gt, ax_gi, Option.bind_some, ax_gbl, ax_gb2, ax_gd, Int.reduceEq, Int.reduceNe, Int.reduceLT, Int.reduceLE, Int.reduceAdd, Int.reduceSub, Int.reduceMul, Int.reduceNeg, reduceIte, ite_true, ite_false, true_and, and_true, false_and, and_false, true_or, or_true, false_or, or_false, not_true_eq_false, not_false_eq_true, and_self, or_self, eq_self, ite_self, decide_true, decide_false, Bool.true_and, Bool.and_true, Bool.and_self, Bool.false_and, Int.add_zero, Int.zero_add, ax_rw, if_pos, if_neg, ax_o_447, Int.lt_irrefl, e91]
    refine ax_ok_some ⟨ax_fo_congr _ _ _ fun m s m0 m1 => by rw [f1 m m0 (by omega)], e', D'⟩
theorem op_night (a : RR M) {k : Int} (hk : -2147483648 ≤ k ∧ k < 2147483648) : OP d M 289 301 [(0, k)] := by
  have hK := a.1
  have hd := a.2.1.2.2.1.2.2
  have B := RR_H a
  have hn := a.2.1.2.1.1.2.1
  obtain ⟨P, W, cd, E, E2, S⟩ := RR_env a
  have d0 := B.2.2.1
  have d1 : fl M 448 60 162 = am_rd M 448 222 := fl_at (by omega)
  have day : am_rd M 8 6 = am_rd M 448 222 := a.2.1.2.2.1.1.2.2.2.2.2.2.2.1.trans d1
  by_cases h1 : 1 ≤ k ∧ k ≤ 60
  · by_cases h2 : am_rd M 448 222 + k ≤ 999
    · have aN : NI (am_rd M 448 0) (am_rd M 448 1) M := ⟨a.2.1.2.1, rfl, rfl, B⟩
      obtain ⟨r1, M1, e1, q1, K1, p1, E1, D1, n1, y1, l1⟩ := c_277 (d := d) (k := k) (q := k) hK a.2.1 E S aN (by omega) h1.1 h1.2 (by omega)
      have C1 := p1.2.2.1.1
      rw [l1 1 (by omega) (by omega)] at C1
      have e2 := c_122 (d := d) K1 C1 n1.2.2.2 hn.2 hn.1
      have row : RowEq M1 M := fun i _ _ => D1 448 i (by omega) (by omega) (by omega) (by omega)
      have E3 := DF_ME E2 D1
      obtain ⟨r3, M3, e3, q3, R3, D3⟩ := m_301l (d := d) K1 row E3 S aN h1.1 h2
      have K3 := ax_KE (r := (r3, M3)) rfl K1 e3
      refine ⟨r3, M1, M3, ?_, ?_, RR_fin a p1 D1 D3 R3 (l1 3 (by omega) (by omega)) K3⟩
      · rw [q3, aq_289]
        simp (disch := first | assumption | omega) only [ax_gt, ax_gi, Option.bind_some, ax_gbl, ax_gb2, ax_gd, Int.reduceEq, Int.reduceNe, Int.reduceLT, Int.reduceLE, Int.reduceAdd, Int.reduceSub, Int.reduceMul, Int.reduceNeg, reduceIte, ite_true, ite_false, true_and, and_true, false_and, and_false, true_or, or_true, false_or, or_false, not_true_eq_false, not_false_eq_true, and_self, or_self, eq_self, ite_self, decide_true, decide_false, Bool.true_and, Bool.and_true, Bool.and_self, Bool.false_and, Int.add_zero, Int.zero_add, ax_rw, if_pos, if_neg, ax_w32, ax_o_1, kr_1_0, kr_1_1, kr_1_2, kr_1_3, kr_1_4, kr_1_5, kr_1_6, kr_1_7, kr_1_9, kr_1_10, kr_1_11, kr_1_12, kr_1_13, kr_1_14, ax_a_419, ax_o_2, kr_2_0, kr_2_1, kr_2_2, kr_2_3, kr_2_4, ax_a_3, ax_a_4, ax_a_5, ax_a_6, ax_a_7, ax_o_8, kr_8_0, kr_8_1, kr_8_2, kr_8_3, kr_8_4, ax_a_9, ax_a_10, ax_a_11, ax_a_12, ax_a_13, day, e1, E1.1.2.1, e2]
      · have g : am_rd M1 448 222 = am_rd M 448 222 := row 222 (by omega) (by omega)
        rw [aq_301]
        simp (disch := first | assumption | omega) only [ax_gt, ax_gi, Option.bind_some, ax_gbl, ax_gb2, ax_gd, Int.reduceEq, Int.reduceNe, Int.reduceLT, Int.reduceLE, Int.reduceAdd, Int.reduceSub, Int.reduceMul, Int.reduceNeg, reduceIte, ite_true, ite_false, true_and, and_true, false_and, and_false, true_or, or_true, false_or, or_false, not_true_eq_false, not_false_eq_true, and_self, or_self, eq_self, ite_self, decide_true, decide_false, Bool.true_and, Bool.and_true, Bool.and_self, Bool.false_and, Int.add_zero, Int.zero_add, ax_rw, if_pos, if_neg, ax_w32, ax_o_447, ax_a_448, kr_447_0, m_64, ax_b0, h1, g, e3]
    · refine ⟨-1, M, M, ?_, ?_, a⟩
      · rw [aq_289]; simp (disch := first | assumption | omega) only [ax_gt, ax_gi, Option.bind_some, ax_gbl, ax_gb2, ax_gd, Int.reduceEq, Int.reduceNe, Int.reduceLT, Int.reduceLE, Int.reduceAdd, Int.reduceSub, Int.reduceMul, Int.reduceNeg, reduceIte, ite_true, ite_false, true_and, and_true, false_and, and_false, true_or, or_true, false_or, or_false, not_true_eq_false, not_false_eq_true, and_self, or_self, eq_self, ite_self, decide_true, decide_false, Bool.true_and, Bool.and_true, Bool.and_self, Bool.false_and, Int.add_zero, Int.zero_add, ax_rw, if_pos, if_neg, ax_w32, ax_o_1, kr_1_0, kr_1_1, kr_1_2, kr_1_3, kr_1_4, kr_1_5, kr_1_6, kr_1_7, kr_1_9, kr_1_10, kr_1_11, kr_1_12, kr_1_13, kr_1_14, ax_a_419, ax_o_8, kr_8_0, kr_8_1, kr_8_2, kr_8_3, kr_8_4, ax_a_9, ax_a_10, ax_a_11, ax_a_12, ax_a_13, day]
      · rw [aq_301]; simp (disch := first | assumption | omega) only [ax_gt, ax_gi, Option.bind_some, ax_gbl, ax_gb2, ax_gd, Int.reduceEq, Int.reduceNe, Int.reduceLT, Int.reduceLE, Int.reduceAdd, Int.reduceSub, Int.reduceMul, Int.reduceNeg, reduceIte, ite_true, ite_false, true_and, and_true, false_and, and_false, true_or, or_true, false_or, or_false, not_true_eq_false, not_false_eq_true, and_self, or_self, eq_self, ite_self, decide_true, decide_false, Bool.true_and, Bool.and_true, Bool.and_self, Bool.false_and, Int.add_zero, Int.zero_add, ax_rw, if_pos, if_neg, ax_w32, ax_o_447, ax_a_448, kr_447_0, m_64, ax_b0, h1]
  · refine ⟨-1, M, M, ?_, ?_, a⟩
    · rw [aq_289]
      split
      · rfl
      · rw [if_neg (by omega)]
    · rw [aq_301]; simp (disch := first | assumption | omega) only [ax_gt, ax_gi, Option.bind_some, ax_gbl, ax_gb2, ax_gd, Int.reduceEq, Int.reduceNe, Int.reduceLT, Int.reduceLE, Int.reduceAdd, Int.reduceSub, Int.reduceMul, Int.reduceNeg, reduceIte, ite_true, ite_false, true_and, and_true, false_and, and_false, true_or, or_true, false_or, or_false, not_true_eq_false, not_false_eq_true, and_self, or_self, eq_self, ite_self, decide_true, decide_false, Bool.true_and, Bool.and_true, Bool.and_self, Bool.false_and, Int.add_zero, Int.zero_add, m_64, ax_b0, h1]
end
