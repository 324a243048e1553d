/-! smelt, undo, night -/
theorem sm_bB : ∀ s i : Fin 6, (am_and (am_shr (am_shl 1 (s.val : Int)) (i.val : Int)) 1 = 1) ↔ i.val = s.val := by decide +kernel
theorem sm_b {s i : Int} (s0 : 0 ≤ s) (s1 : s < 6) (i0 : 0 ≤ i) (i1 : i < 6) : (am_and (am_shr (am_shl 1 s) i) 1 = 1) ↔ i = s := by
  have h := sm_bB ⟨s.toNat, by omega⟩ ⟨i.toNat, by omega⟩
  simp only [Int.toNat_of_nonneg s0, Int.toNat_of_nonneg i0] at h
  rw [h]
  omega
theorem sm_one {f : Int → Int} {s k : Int} (s0 : 0 ≤ s) (s1 : s < k) (k6 : k ≤ 6) (hf : 0 ≤ f s ∧ f s < 256) : ax_fo (fun i a => if am_and (am_shr (am_shl 1 s) i) 1 = 1 then am_or a (f i) else am_or a 0) (k - 0).toNat 0 0 = f s := by
  have := ax_fo_inv (f := fun i a => if am_and (am_shr (am_shl 1 s) i) 1 = 1 then am_or a (f i) else am_or a 0) (P := fun i a => a = if s < i then f s else 0) (k - 0).toNat 0 0 (fun i a i0 i1 ha => by
    try dsimp only
    by_cases e : i = s
    · rw [if_pos ((sm_b s0 (by omega) i0 (by omega)).mpr e), ha, if_neg (by omega), e, if_pos (by omega)]
      rw [ax_or_nn (by omega) (by omega) hf.1 (by omega)]
      simp only [Int.toNat_zero, Nat.zero_or]
      exact Int.toNat_of_nonneg hf.1
    · rw [if_neg (fun h => e ((sm_b s0 (by omega) i0 (by omega)).mp h)), ha]
      by_cases h : s < i
      · rw [if_pos h, if_pos (by omega), ax_or0 hf.1 (by omega)]
      · rw [if_neg h, if_neg (by omega), ax_or0 (by omega) (by omega)]) (by rw [if_neg (by omega)])
  rw [this, if_pos (by omega)]
section
variable {M : am_M} {d : Nat}
/-- what smells bring back, on the developers' side -/
theorem c_20' {x : Int} (a : RR M) : am_Call d 20 [(2, 2), (0, x)] M = some (bk (fun t => am_rd M 448 (18 + t)) (am_rd M 448 0) (ax_fo (fun i s => if am_and (am_shr x i) 1 = 1 then am_or s (am_rd M 448 (32 + i)) else am_or s 0) (am_rd M 448 2 - 0).toNat 0 0), M) := by
  have g := a.2.1.1
  have hT := a.2.1.2.1.1.1
  have hS := a.2.1.2.1.1.2.2.1
  rw [c_20 a.1 (RR_gB a), g.1.1, g.1.2.2.1]
  congr 2
  have e1 : ∀ s, ax_fo (fun t s => if am_and (am_shr s t) 1 = 1 then am_or s (am_rd M 4 t) else am_or s 0) (am_rd M 448 0 - 0).toNat 0 s = rd1 (fun t => am_rd M 448 (18 + t)) (am_rd M 448 0) s := fun s => ax_fo_congr _ _ _ fun t b t0 t1 => by
    have := g.2.2.1 t t0 (by omega)
    simp only [Int.reduceEq, Int.reduceNe, Int.reduceLT, Int.reduceLE, Int.reduceAdd, Int.reduceSub, Int.reduceMul, Int.reduceNeg, reduceIte, ite_true, ite_false, true_and, and_true, false_and, and_false, true_or, or_true, false_or, or_false, not_true_eq_false, not_false_eq_true, and_self, or_self, eq_self, ite_self, decide_true, decide_false, Bool.true_and, Bool.and_true, Bool.and_self, Bool.false_and, Int.add_zero, Int.zero_add] at this
    rw [this]
  have e2 : ax_fo (fun i s => if am_and (am_shr x i) 1 = 1 then am_or s (am_rd M 6 i) else am_or s 0) (am_rd M 448 2 - 0).toNat 0 0 = ax_fo (fun i s => if am_and (am_shr x i) 1 = 1 then am_or s (am_rd M 448 (32 + i)) else am_or s 0) (am_rd M 448 2 - 0).toNat 0 0 := ax_fo_congr _ _ _ fun t b t0 t1 => by
    have := g.2.2.2.2.1 t t0 (by omega)
    simp only [Int.reduceEq, Int.reduceNe, Int.reduceLT, Int.reduceLE, Int.reduceAdd, Int.reduceSub, Int.reduceMul, Int.reduceNeg, reduceIte, ite_true, ite_false, true_and, and_true, false_and, and_false, true_or, or_true, false_or, or_false, not_true_eq_false, not_false_eq_true, and_self, or_self, eq_self, ite_self, decide_true, decide_false, Bool.true_and, Bool.and_true, Bool.and_self, Bool.false_and, Int.add_zero, Int.zero_add] at this
    rw [this]
  rw [e2]
  exact ax_fo_congr _ _ _ fun _ s _ _ => e1 s
theorem RR_L (a : RR M) : ∀ t, 0 ≤ t → t < am_rd M 448 0 → 0 ≤ am_rd M 448 (18 + t) ∧ am_rd M 448 (18 + t) < ((2 ^ (am_rd M 448 0).toNat : Nat) : Int) := fun t t0 t1 => a.2.1.2.1.2.2.1 t t0 (by have := a.2.1.2.1.1.1; omega)
theorem m_229l {m bits T : Int} {H : Int → Int} (hK : ax_K M) (F : FH M 448 60 H) (hT : am_rd M 448 0 = T) (T0 : 0 ≤ T) (T8 : T ≤ 8) (B : HB T H) (m0 : 0 ≤ m) (m2 : m < 6) : ax_ok (am_Ex d 229 31 [(2, 447), (0, m), am_N, (0, bits), (0, 0), am_N] [] M) (fun r M' => r = bits ∧ FH M' 448 60 (hBk T m bits H) ∧ RF M M') := by
  unfold hBk
  refine ax_loopQ (σ := Int → Int) (X := fun t _ m' => am_Ex d 229 31 [(2, 447), (0, m), am_N, (0, bits), (0, t), am_N] [] m') (n := T) (fun t H' m' => 0 ≤ t ∧ ax_K m' ∧ FH m' 448 60 H' ∧ RF M m' ∧ HB T H' ∧ ax_fo (fun t H => if am_and (am_shr bits t) 1 = 1 then hR H m t (H (96 + (8 * m + t))) else H) (T - t).toNat t H' = ax_fo (fun t H => if am_and (am_shr bits t) 1 = 1 then hR H m t (H (96 + (8 * m + t))) else H) (T - 0).toNat 0 H) ?_ ?_ (T - 0).toNat 0 H M (by omega) ⟨by omega, hK, F, fun _ _ _ _ _ _ _ => rfl, B, rfl⟩
  · intro t H' m' ⟨t0, hK', F', f', B', hs⟩ t1 hnext
    have gT : am_rd m' 448 0 = T := (f' _ _ (by omega) (by omega) (by omega) (by omega) (by omega)).trans hT
    have g1 := F' (8 * m + t) (by omega) (by omega)
    have g2 := F' (96 + (8 * m + t)) (by omega) (by omega)
    rw [show 60 + (96 + (8 * m + t)) = 156 + (8 * m + t) by omega] at g2
    have bb := B'.1 (8 * m + t) (by omega) (by omega)
    have stp : ∀ H2 : Int → Int, ∀ v, FH (am_wr m' 448 (60 + (8 * m + t)) v) 448 60 (hu H' (8 * m + t) v) ∧ RF M (am_wr m' 448 (60 + (8 * m + t)) v) := fun _ v => by
      have w := RF_wr (v := v) F' (j := 8 * m + t) (i := 60 + (8 * m + t)) (by omega) (by omega) rfl
      exact ⟨w.1, fun c i h1 h2 h3 h4 h5 => (w.2 c i h1 h2 h3 h4 h5).trans (f' c i h1 h2 h3 h4 h5)⟩
    show ax_ok (am_Ex d 229 31 _ _ _) _
    by_cases hb : am_and (am_shr bits t) 1 = 1
    · have st := stp H' (H' (96 + (8 * m + t)))
      have e0 : hu H' (8 * m + t) (H' (96 + (8 * m + t))) = hR H' m t (H' (96 + (8 * m + t))) := by
        funext j
        unfold hR hu
        rw [hcl_id (by omega) (by omega)]
        by_cases e : j = 96 + (8 * m + t)
        · rw [if_neg (by omega), if_pos e, e]; omega
        · rw [if_neg e]
      rw [e0] at st
      rw [aq_229_31]
      simp (disch := first | assumption | omega) only [ax_gt, ax_gi, Option.bind_some, ax_gbl, ax_gb2, ax_gd, Int.reduceEq, Int.reduceNe, Int.reduceLT, Int.reduceLE, Int.reduceAdd, Int.reduceSub, Int.reduceMul, Int.reduceNeg, reduceIte, ite_true, ite_false, true_and, and_true, false_and, and_false, true_or, or_true, false_or, or_false, not_true_eq_false, not_false_eq_true, and_self, or_self, eq_self, ite_self, decide_true, decide_false, Bool.true_and, Bool.and_true, Bool.and_self, Bool.false_and, Int.add_zero, Int.zero_add, ax_rw, if_pos, if_neg, ax_w32, ax_let, ax_o_447, ax_a_448, kr_447_0, gT, m_65, ax_b0, hb, g1, g2]
      exact hnext _ _ ⟨by omega, ax_Kw hK' rfl, st.1, st.2, HB_R B' m0 m2 t0 t1 T8, by rw [← hs, ax_fo_s t1, if_pos hb]⟩
    · have st := stp H' (H' (8 * m + t))
      have e0 : hu H' (8 * m + t) (H' (8 * m + t)) = H' := by
        funext j; unfold hu; split
        · rename_i h; rw [h]
        · rfl
      rw [e0] at st
      rw [aq_229_31]
      simp (disch := first | assumption | omega) only [ax_gt, ax_gi, Option.bind_some, ax_gbl, ax_gb2, ax_gd, Int.reduceEq, Int.reduceNe, Int.reduceLT, Int.reduceLE, Int.reduceAdd, Int.reduceSub, Int.reduceMul, Int.reduceNeg, reduceIte, ite_true, ite_false, true_and, and_true, false_and, and_false, true_or, or_true, false_or, or_false, not_true_eq_false, not_false_eq_true, and_self, or_self, eq_self, ite_self, decide_true, decide_false, Bool.true_and, Bool.and_true, Bool.and_self, Bool.false_and, Int.add_zero, Int.zero_add, ax_rw, if_pos, if_neg, ax_w32, ax_let, ax_o_447, ax_a_448, kr_447_0, gT, m_65, ax_b0, hb, g1, g2]
      exact hnext _ _ ⟨by omega, ax_Kw hK' rfl, st.1, st.2, B', by rw [← hs, ax_fo_s t1, if_neg hb]⟩
  · intro H' m' ⟨t0, hK', F', f', B', hs⟩
    rw [ax_fo_e (Int.le_refl _)] at hs
    have gT : am_rd m' 448 0 = T := (f' _ _ (by omega) (by omega) (by omega) (by omega) (by omega)).trans hT
    show ax_ok (am_Ex d 229 31 _ _ _) _
    rw [aq_229_31]
    simp (disch := first | assumption | omega) only [ax_gt, ax_gi, Option.bind_some, ax_gbl, ax_gb2, ax_gd, Int.reduceEq, Int.reduceNe, Int.reduceLT, Int.reduceLE, Int.reduceAdd, Int.reduceSub, Int.reduceMul, Int.reduceNeg, reduceIte, ite_true, ite_false, true_and, and_true, false_and, and_false, true_or, or_true, false_or, or_false, not_true_eq_false, not_false_eq_true, and_self, or_self, eq_self, ite_self, decide_true, decide_false, Bool.true_and, Bool.and_true, Bool.and_self, Bool.false_and, Int.add_zero, Int.zero_add, ax_rw, if_pos, if_neg, ax_o_447, ax_a_448, kr_447_0, gT, Int.lt_irrefl]
    exact ax_ok_some ⟨rfl, hs ▸ F', f'⟩
theorem hBk_o {T m bits j : Int} {H : Int → Int} (m0 : 0 ≤ m) (m1 : m < 6) (T8 : T ≤ 8) (hj : 144 ≤ j) : hBk T m bits H j = H j := by
  unfold hBk
  refine ax_fo_inv (P := fun _ (H' : Int → Int) => H' j = H j) _ _ _ (fun t H' t0 t1 hH => ?_) rfl
  split
  · simp (disch := omega) only [hR, hu, if_neg]; exact hH
  · exact hH
theorem op_smelt (a : RR M) {m s : Int} : OP d M 213 229 [(0, m), (0, s)] := by
  have hK := a.1
  have gB := RR_gB a
  have mB := RR_mB a
  have g := a.2.1.1
  have bT := a.2.1.2.1.1.1
  have hn := a.2.1.2.1.1.2.1
  have hS := a.2.1.2.1.1.2.2.1
  have hd := a.2.1.2.2.1.2.2
  have C := RR_C a
  have B := RR_H a
  have c8 := fun d => c_8 (d := d) (t := m) hK gB
  rw [g.1.2.1] at c8
  have c9 := fun d => c_9 (d := d) (t := s) hK gB
  rw [g.1.2.2.1] at c9
  have m196 := fun d => m_196 (d := d) (m := m) hK mB
  rw [← fl_at (M := M) (c := 448) (o := 60) (j := 156 + m) (k := 216 + m) (by omega)] at m196
  by_cases h1 : 0 ≤ m ∧ m < am_rd M 448 1
  · have c25 := fun d => c_25 (d := d) hK h88 C h1.1 (by omega)
    by_cases h2 : 0 ≤ s ∧ s < am_rd M 448 2
    · by_cases h3 : fl M 448 60 (156 + m) = 0
      · have sb := a.2.1.2.1.2.2.2.2.2.1 s h2.1 (by omega)
        have p8 := pw8 bT.1 bT.2
        have hone := sm_one (f := fun i => am_rd M 448 (32 + i)) h2.1 h2.2 hS.2 (by omega)
        have B' := HB_Bk (bits := bk (fun t => am_rd M 448 (18 + t)) (am_rd M 448 0) (am_rd M 448 (32 + s))) B bT.2 h1.1 (by omega)
        refine OP_st (r := bk (fun t => am_rd M 448 (18 + t)) (am_rd M 448 0) (am_rd M 448 (32 + s))) a B' (by rw [hBk_o h1.1 (by omega) bT.2 (by omega), fl_at (k := 222) (by omega)]; exact hd) ?_ rfl ?_ rfl
        · obtain ⟨r1, Ma, e1, K1, k1, C1, g1⟩ := KP_get d a
          have e20 : ∀ d, am_Call d 20 [(2, 2), (0, am_shl 1 s)] Ma = some (bk (fun t => am_rd M 448 (18 + t)) (am_rd M 448 0) (am_rd M 448 (32 + s)), Ma) := by
            intro d
            have q := a.2.1.2.2.2.1
            have D : DF M Ma := KP_DF k1 q.1 q.2
            have gBa : cg_B Ma := by
              unfold cg_B
              rw [g1 2 5 (by omega), g1 2 6 (by omega), g1 2 7 (by omega), g1 2 8 (by omega), g1 2 11 (by omega)]
              exact gB
            rw [c_20 K1 gBa]
            have h20 := c_20' (d := d) (x := am_shl 1 s) a
            rw [c_20 hK gB, hone] at h20
            have h20 := congrArg (fun o => o.map Prod.fst) h20
            simp only [Option.map_some] at h20
            rw [g1 2 5 (by omega), g1 2 7 (by omega)]
            have e4 : ∀ t, am_rd Ma 4 t = am_rd M 4 t := fun t => g1 4 t (by omega)
            have e6 : ∀ t, am_rd Ma 6 t = am_rd M 6 t := fun t => g1 6 t (by omega)
            simp only [e4, e6]
            rw [Option.some.inj h20]
          obtain ⟨r3, M3, e3, C3, F3⟩ := c_173 (d := d) (bits := bk (fun t => am_rd M 448 (18 + t)) (am_rd M 448 0) (am_rd M 448 (32 + s))) K1 h88 C1 B bT.1 bT.2 h1.1 (by omega)
          rw [aq_213]
          simp (disch := first | assumption | omega) only [ax_gt, ax_gi, Option.bind_some, ax_gbl, ax_gb2, ax_gd, Int.reduceEq, Int.reduceNe, Int.reduceLT, Int.reduceLE, Int.reduceAdd, Int.reduceSub, Int.reduceMul, Int.reduceNeg, reduceIte, ite_true, ite_false, true_and, and_true, false_and, and_false, true_or, or_true, false_or, or_false, not_true_eq_false, not_false_eq_true, and_self, or_self, eq_self, ite_self, decide_true, decide_false, Bool.true_and, Bool.and_true, Bool.and_self, Bool.false_and, Int.add_zero, Int.zero_add, ax_rw, if_pos, if_neg, ax_o_1, kr_1_0, kr_1_1, kr_1_2, kr_1_3, kr_1_4, kr_1_5, kr_1_6, kr_1_7, kr_1_9, kr_1_10, kr_1_11, kr_1_12, kr_1_13, kr_1_14, ax_a_419, ax_o_2, kr_2_0, kr_2_1, kr_2_2, kr_2_3, kr_2_4, ax_a_3, ax_a_4, ax_a_5, ax_a_6, ax_a_7, ax_o_8, kr_8_0, kr_8_1, kr_8_2, kr_8_3, kr_8_4, ax_a_9, ax_a_10, ax_a_11, ax_a_12, ax_a_13, ax_o_55, kr_55_0, ax_q_56, c8, c9, ax_b0, h1, h2, c25, h3, e1, e20, e3]
          exact ax_ok_some ⟨rfl, Ma, k1, F3, C3⟩
        · intro N hN D
          have mB' := DF_mB mB D
          have m196' := m_196 (d := d) (m := m) hN mB'
          rw [DF_r D, DF_r D, ← fl_at (M := M) (c := 448) (o := 60) (j := 156 + m) (k := 216 + m) (by omega)] at m196'
          obtain ⟨r5, M5, e5, k5⟩ := m_68' (d := d) hN mB'
          have K5 := ax_Kp e5 hN rfl
          have F5 := KM_FH (DF_fl D) k5 mB'.2.2.2.2.2.1
          have low : ∀ i, i < 60 → i ≠ 5 → am_rd M5 448 i = am_rd M 448 i := fun i h0 h5 => (KM_low k5 mB'.2.2.2.2.2.1 h0 h5).trans (DF_r D)
          have mB5 : mb_B M5 := by
            have h5 : am_rd M5 448 5 = min (am_rd N 448 5) 29 + 1 := by rw [k5, if_pos rfl, if_pos rfl]
            have := mB'.2.2.2.2.2
            unfold mb_B
            rw [low 0 (by omega) (by omega), low 1 (by omega) (by omega), low 2 (by omega) (by omega), low 6 (by omega) (by omega), low 3 (by omega) (by omega), h5]
            exact ⟨mB.1, mB.2.1, mB.2.2.1, mB.2.2.2.1, mB.2.2.2.2.1, by omega⟩
          have e159 : ∀ d, am_Call d 159 [(2, 447), (0, am_rd M 448 (32 + s))] M5 = some (bk (fun t => am_rd M 448 (18 + t)) (am_rd M 448 0) (am_rd M 448 (32 + s)), M5) := by
            intro d
            rw [m_159 K5 mB5, low 0 (by omega) (by omega)]
            rw [← bk_8 bT.1 bT.2 (RR_L a) sb.1 sb.2]
            congr 2
            exact ax_fo_congr _ _ _ fun _ x _ _ => ax_fo_congr _ _ _ fun t b t0 t1 => by simp only [low (18 + t) (by omega) (by omega)]
          have g3 := low (32 + s) (by omega) (by omega)
          obtain ⟨r6, M6, e6, q6, F6, f6⟩ := m_229l (d := d) (bits := bk (fun t => am_rd M 448 (18 + t)) (am_rd M 448 0) (am_rd M 448 (32 + s))) K5 F5 (low 0 (by omega) (by omega)) bT.1 bT.2 B h1.1 (by omega)
          have g2 : am_rd N 448 2 = am_rd M 448 2 := DF_r D
          rw [aq_229]
          simp (disch := first | assumption | omega) only [ax_gt, ax_gi, Option.bind_some, ax_gbl, ax_gb2, ax_gd, Int.reduceEq, Int.reduceNe, Int.reduceLT, Int.reduceLE, Int.reduceAdd, Int.reduceSub, Int.reduceMul, Int.reduceNeg, reduceIte, ite_true, ite_false, true_and, and_true, false_and, and_false, true_or, or_true, false_or, or_false, not_true_eq_false, not_false_eq_true, and_self, or_self, eq_self, ite_self, decide_true, decide_false, Bool.true_and, Bool.and_true, Bool.and_self, Bool.false_and, Int.add_zero, Int.zero_add, ax_rw, if_pos, if_neg, ax_w32, ax_o_447, ax_a_448, kr_447_0, m196', ax_b0, h1, h3, g2, m_64]
          simp (disch := first | assumption | omega) only [ax_gt, ax_gi, Option.bind_some, ax_gbl, ax_gb2, ax_gd, Int.reduceEq, Int.reduceNe, Int.reduceLT, Int.reduceLE, Int.reduceAdd, Int.reduceSub, Int.reduceMul, Int.reduceNeg, reduceIte, ite_true, ite_false, true_and, and_true, false_and, and_false, true_or, or_true, false_or, or_false, not_true_eq_false, not_false_eq_true, and_self, or_self, eq_self, ite_self, decide_true, decide_false, Bool.true_and, Bool.and_true, Bool.and_self, Bool.false_and, Int.add_zero, Int.zero_add, ax_rw, if_pos, if_neg, ax_w32, ax_o_447, ax_a_448, kr_447_0, e5, g3, e159, e6]
          exact ax_ok_some ⟨q6, M5, k5, F6, f6⟩
      · refine ⟨-1, M, M, ?_, ?_, a⟩
        · rw [aq_213]; simp (disch := first | assumption | omega) only [ax_gt, ax_gi, Option.bind_some, ax_gbl, ax_gb2, ax_gd, Int.reduceEq, Int.reduceNe, Int.reduceLT, Int.reduceLE, Int.reduceAdd, Int.reduceSub, Int.reduceMul, Int.reduceNeg, reduceIte, ite_true, ite_false, true_and, and_true, false_and, and_false, true_or, or_true, false_or, or_false, not_true_eq_false, not_false_eq_true, and_self, or_self, eq_self, ite_self, decide_true, decide_false, Bool.true_and, Bool.and_true, Bool.and_self, Bool.false_and, Int.add_zero, Int.zero_add, ax_rw, if_pos, if_neg, ax_o_1, kr_1_0, kr_1_1, kr_1_2, kr_1_3, kr_1_4, kr_1_5, kr_1_6, kr_1_7, kr_1_9, kr_1_10, kr_1_11, kr_1_12, kr_1_13, kr_1_14, ax_a_419, ax_o_2, kr_2_0, kr_2_1, kr_2_2, kr_2_3, kr_2_4, ax_a_3, ax_a_4, ax_a_5, ax_a_6, ax_a_7, ax_o_8, kr_8_0, kr_8_1, kr_8_2, kr_8_3, kr_8_4, ax_a_9, ax_a_10, ax_a_11, ax_a_12, ax_a_13, c8, c9, ax_b0, h1, h2, c25, h3]
        · rw [aq_229]; simp (disch := first | assumption | omega) only [ax_gt, ax_gi, Option.bind_some, ax_gbl, ax_gb2, ax_gd, Int.reduceEq, Int.reduceNe, Int.reduceLT, Int.reduceLE, Int.reduceAdd, Int.reduceSub, Int.reduceMul, Int.reduceNeg, reduceIte, ite_true, ite_false, true_and, and_true, false_and, and_false, true_or, or_true, false_or, or_false, not_true_eq_false, not_false_eq_true, and_self, or_self, eq_self, ite_self, decide_true, decide_false, Bool.true_and, Bool.and_true, Bool.and_self, Bool.false_and, Int.add_zero, Int.zero_add, ax_rw, if_pos, if_neg, ax_o_447, m196, ax_b0]
    · refine ⟨-1, M, M, ?_, ?_, a⟩
      · rw [aq_213]; simp (disch := first | assumption | omega) only [ax_gt, ax_gi, Option.bind_some, ax_gbl, ax_gb2, ax_gd, Int.reduceEq, Int.reduceNe, Int.reduceLT, Int.reduceLE, Int.reduceAdd, Int.reduceSub, Int.reduceMul, Int.reduceNeg, reduceIte, ite_true, ite_false, true_and, and_true, false_and, and_false, true_or, or_true, false_or, or_false, not_true_eq_false, not_false_eq_true, and_self, or_self, eq_self, ite_self, decide_true, decide_false, Bool.true_and, Bool.and_true, Bool.and_self, Bool.false_and, Int.add_zero, Int.zero_add, ax_rw, if_pos, if_neg, ax_o_1, kr_1_0, kr_1_1, kr_1_2, kr_1_3, kr_1_4, kr_1_5, kr_1_6, kr_1_7, kr_1_9, kr_1_10, kr_1_11, kr_1_12, kr_1_13, kr_1_14, ax_a_419, ax_o_2, kr_2_0, kr_2_1, kr_2_2, kr_2_3, kr_2_4, ax_a_3, ax_a_4, ax_a_5, ax_a_6, ax_a_7, ax_o_8, kr_8_0, kr_8_1, kr_8_2, kr_8_3, kr_8_4, ax_a_9, ax_a_10, ax_a_11, ax_a_12, ax_a_13, c8, c9, ax_b0, h1, h2]
      · rw [aq_229]
        simp (disch := first | assumption | omega) only [ax_gt, ax_gi, Option.bind_some, ax_gbl, ax_gb2, ax_gd, Int.reduceEq, Int.reduceNe, Int.reduceLT, Int.reduceLE, Int.reduceAdd, Int.reduceSub, Int.reduceMul, Int.reduceNeg, reduceIte, ite_true, ite_false, true_and, and_true, false_and, and_false, true_or, or_true, false_or, or_false, not_true_eq_false, not_false_eq_true, and_self, or_self, eq_self, ite_self, decide_true, decide_false, Bool.true_and, Bool.and_true, Bool.and_self, Bool.false_and, Int.add_zero, Int.zero_add, ax_rw, if_pos, if_neg, ax_w32, ax_o_447, ax_a_448, kr_447_0, m196, ax_b0, m_64]
        all_goals ((repeat' split) <;> first | rfl | (exfalso; omega))
  · refine ⟨-1, M, M, ?_, ?_, a⟩
    · rw [aq_213]; simp (disch := first | assumption | omega) only [ax_gt, ax_gi, Option.bind_some, ax_gbl, ax_gb2, ax_gd, Int.reduceEq, Int.reduceNe, Int.reduceLT, Int.reduceLE, Int.reduceAdd, Int.reduceSub, Int.reduceMul, Int.reduceNeg, reduceIte, ite_true, ite_false, true_and, and_true, false_and, and_false, true_or, or_true, false_or, or_false, not_true_eq_false, not_false_eq_true, and_self, or_self, eq_self, ite_self, decide_true, decide_false, Bool.true_and, Bool.and_true, Bool.and_self, Bool.false_and, Int.add_zero, Int.zero_add, ax_rw, if_pos, if_neg, ax_o_1, kr_1_0, kr_1_1, kr_1_2, kr_1_3, kr_1_4, kr_1_5, kr_1_6, kr_1_7, kr_1_9, kr_1_10, kr_1_11, kr_1_12, kr_1_13, kr_1_14, ax_a_419, ax_o_2, kr_2_0, kr_2_1, kr_2_2, kr_2_3, kr_2_4, ax_a_3, ax_a_4, ax_a_5, ax_a_6, ax_a_7, c8, ax_b0, h1]
    · rw [aq_229]; simp (disch := first | assumption | omega) only [ax_gt, ax_gi, Option.bind_some, ax_gbl, ax_gb2, ax_gd, Int.reduceEq, Int.reduceNe, Int.reduceLT, Int.reduceLE, Int.reduceAdd, Int.reduceSub, Int.reduceMul, Int.reduceNeg, reduceIte, ite_true, ite_false, true_and, and_true, false_and, and_false, true_or, or_true, false_or, or_false, not_true_eq_false, not_false_eq_true, and_self, or_self, eq_self, ite_self, decide_true, decide_false, Bool.true_and, Bool.and_true, Bool.and_self, Bool.false_and, Int.add_zero, Int.zero_add, ax_rw, if_pos, if_neg, ax_o_447, m196, ax_b0]
/-! undo -/
theorem op_undo (a : RR M) : OP d M 187 69 [] := by
  have hK := a.1
  have q := a.2.1.2.2.2.1
  have s := a.2.1.2.2.2.2.1
  have s3 := a.2.1.2.2.2.2.2
  have c5 := a.2.1.2.1.1.2.2.2.2.2.1
  by_cases h0 : am_rd M 448 5 = 0
  · refine ⟨-1, M, M, ?_, m_69n hK h0, a⟩
    have e := fun d => c_135n (d := d) hK q.1 q.2 (by rw [s]; exact h0)
    rw [aq_187]
    simp (disch := first | assumption | omega) only [ax_gt, ax_gi, Option.bind_some, ax_gbl, ax_gb2, ax_gd, Int.reduceEq, Int.reduceNe, Int.reduceLT, Int.reduceLE, Int.reduceAdd, Int.reduceSub, Int.reduceMul, Int.reduceNeg, reduceIte, ite_true, ite_false, true_and, and_true, false_and, and_false, true_or, or_true, false_or, or_false, not_true_eq_false, not_false_eq_true, and_self, or_self, eq_self, ite_self, decide_true, decide_false, Bool.true_and, Bool.and_true, Bool.and_self, Bool.false_and, Int.add_zero, Int.zero_add, ax_rw, if_pos, if_neg, ax_o_1, kr_1_0, kr_1_1, kr_1_2, kr_1_3, kr_1_4, kr_1_5, kr_1_6, kr_1_7, kr_1_9, kr_1_10, kr_1_11, kr_1_12, kr_1_13, kr_1_14, ax_a_419, ax_o_55, kr_55_0, ax_q_56, e]
  · obtain ⟨r1, M1, e1, q1, k1, k2, k3, k4⟩ := c_135 (d := d) hK q.1 q.2 (by rw [s]; omega) (by rw [s]; exact c5.2)
    have K1 := ax_Kp e1 hK rfl
    have g5 : am_rd M1 448 5 = am_rd M 448 5 := k4 _ _ (by omega) (by omega)
    obtain ⟨r2, M2, e2, q2, f2⟩ := m_69 (d := d) K1 (by omega) (by omega) (q := am_rd M 448 5 - 1) (by omega)
    have K2 := ax_Kp e2 K1 rfl
    refine ⟨am_rd M 448 5 - 1, M1, M2, ?_, by rw [e2, q2], ?_⟩
    · rw [aq_187]
      simp (disch := first | assumption | omega) only [ax_gt, ax_gi, Option.bind_some, ax_gbl, ax_gb2, ax_gd, Int.reduceEq, Int.reduceNe, Int.reduceLT, Int.reduceLE, Int.reduceAdd, Int.reduceSub, Int.reduceMul, Int.reduceNeg, reduceIte, ite_true, ite_false, true_and, and_true, false_and, and_false, true_or, or_true, false_or, or_false, not_true_eq_false, not_false_eq_true, and_self, or_self, eq_self, ite_self, decide_true, decide_false, Bool.true_and, Bool.and_true, Bool.and_self, Bool.false_and, Int.add_zero, Int.zero_add, ax_rw, if_pos, if_neg, ax_o_1, kr_1_0, kr_1_1, kr_1_2, kr_1_3, kr_1_4, kr_1_5, kr_1_6, kr_1_7, kr_1_9, kr_1_10, kr_1_11, kr_1_12, kr_1_13, kr_1_14, ax_a_419, ax_o_55, kr_55_0, ax_q_56, e1, q1, s]
    generalize hc : am_rd M 448 5 = c at *
    generalize hq : am_rd M 55 1 = p at *
    have o2 : ∀ x i, x ≠ 448 → am_rd M2 x i = am_rd M1 x i := fun x i h => by rw [f2, if_neg h]
    have low : ∀ i, i < 60 → i ≠ 5 → am_rd M2 448 i = am_rd M 448 i := fun i h1 h2 => by
      rw [f2, if_pos rfl, if_neg h2, if_neg (by omega)]; exact k4 _ _ (by omega) (by omega)
    have n5 : am_rd M2 448 5 = c - 1 := by rw [f2, if_pos rfl, if_pos rfl]
    have hi : ∀ i, 224 ≤ i → am_rd M2 448 i = am_rd M 448 i := fun i h1 => by
      rw [f2, if_pos rfl, if_neg (by omega), if_neg (by omega)]; exact k4 _ _ (by omega) (by omega)
    have row : ∀ j, 0 ≤ j → j < 164 → am_rd M2 448 (60 + j) = am_rd M 448 (240 + 164 * (c - 1) + j) := fun j j0 j1 => by
      rw [f2, if_pos rfl, if_neg (by omega), if_pos (by omega)]
      rw [k4 448 _ (by omega) (by omega)]
      congr 1; omega
    obtain ⟨b1, b2, b3⟩ := s3 (c - 1) (by omega) (by omega)
    have e9 : (p + 30 - c + (c - 1)) % 30 = (p + 29) % 30 := by congr 1; omega
    rw [e9] at b1
    have b1 : CH M (57 + 6 * ((p + 29) % 30)) (am_rd M 448 1) (fl M 448 (240 + 164 * (c - 1))) := by
      have : (55 : Int) + 2 + 6 * ((p + 29) % 30) = 57 + 6 * ((p + 29) % 30) := by omega
      rw [← this]; exact b1
    have C1 := hCp_CH k1 b1
    refine ⟨K2, ⟨RG_same a.2.1.1 (fun x i h1 h2 => (o2 x i (by omega)).trans (k4 x i (by omega) (by omega))) (fun i _ h1 h2 => low i h1 h2), BG_same5 a.2.1.2.1 (fun i _ h1 h2 => low i h1 h2) (by rw [n5]; omega), ⟨?_, ?_, ?_⟩, ?_, ?_, ?_⟩, ?_, ?_, ?_⟩
    · rw [low 1 (by omega) (by omega)]
      exact CH_congr (CH_same C1 fun x i h1 h2 => o2 x i (by omega)) fun j j0 j1 => (row j j0 j1).symm
    · rw [low 0 (by omega) (by omega)]
      exact HB_congr b2 row
    · have := row 162 (by omega) (by omega)
      rw [show (222 : Int) = 60 + 162 by omega, this, show 240 + 164 * (c - 1) + 162 = 402 + 164 * (c - 1) by omega]
      exact b3
    · rw [o2 55 1 (by omega), k2]; omega
    · rw [o2 55 2 (by omega), k3, n5, s]
    · intro k h1 h2
      rw [n5] at h2
      rw [o2 55 1 (by omega), k2, n5, low 1 (by omega) (by omega), low 0 (by omega) (by omega)]
      obtain ⟨d1, d2, d3⟩ := s3 k h1 (by omega)
      have e : ((p + 29) % 30 + 30 - (c - 1) + k) % 30 = (p + 30 - c + k) % 30 := by omega
      rw [e]
      have rr : ∀ j, 0 ≤ j → j < 164 → fl M2 448 (240 + 164 * k) j = fl M 448 (240 + 164 * k) j := fun j j0 j1 => hi _ (by omega)
      exact ⟨CH_congr (CH_same d1 fun x i x0 x1 => (o2 x i (by omega)).trans (k4 x i (by omega) (by omega))) fun j j0 j1 => (rr j j0 j1).symm, HB_congr d2 rr, by rw [hi _ (by omega)]; exact d3⟩
    · exact RP_same a.2.2.1 (fun x i h => (o2 x i (by omega)).trans (k4 x i (by omega) (by omega))) (fun i _ _ => (o2 449 i (by omega)).trans (k4 449 i (by omega) (by omega)))
    · exact RT_same a.2.2.2.1 (fun x i h => (o2 x i (by omega)).trans (k4 x i (by omega) (by omega)))
    · refine RX_same a.2.2.2.2 (fun x i h => ?_)
      by_cases h8 : x = 448
      · have hi3 : i = 3 := by omega
        subst h8 hi3
        exact low 3 (by omega) (by omega)
      · exact (o2 x i h8).trans (k4 x i (by omega) (by omega))
end
