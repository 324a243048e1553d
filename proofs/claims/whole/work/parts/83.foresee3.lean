/-! foretold, free, lasts -/
section
variable {M : am_M} {d : Nat}
theorem fs_c (a : RR M) : ax_ok (am_Call d 22 [(2, 425), (2, 8)] M) (fun _ M' => CH M' 425 (am_rd M 448 1) (fl M 448 60) ∧ ∀ c i, (c < 425 ∨ 430 < c) → am_rd M' c i = am_rd M c i) := by
  obtain ⟨r, M1, e, c, f⟩ := c_22 (d := d) a.1 (h := 425) (h2 := 8) rfl rfl (by decide)
  exact ⟨r, M1, e, hCp_CH c (RR_C a), fun c i h => f c i (by omega)⟩
theorem op_foretold (a : RR M) {k m : Int} : OP d M 292 297 [(0, k), (0, m)] := by
  have hK := a.1
  have g := a.2.1.1
  have bb := a.2.1.2.1
  have c8 := c_8 (d := d) (t := m) hK (RR_gB a)
  rw [g.1.2.1] at c8
  obtain ⟨P, W, cd, E, E2, S⟩ := RR_env a
  have hd : fl M 448 60 162 ≤ 999 + 0 := a.2.1.2.2.1.2.2
  by_cases h1 : 1 ≤ k ∧ k ≤ 60
  · by_cases h2 : 0 ≤ m ∧ m < am_rd M 448 1
    · obtain ⟨r1, M1, e1, C1, f1⟩ := fs_c (d := d) a
      have K1 := ax_Kp e1 hK rfl
      obtain ⟨r2, M2, e2, q2, f2⟩ := c_273s (d := d) S h2.1 h2.2 h1.2 k.toNat 0 _ M1 (by omega) (by omega) K1 C1 (CE_same E fun c i h => f1 c i (by omega)) (RR_H a) hd
      refine OP_ro (r := hHad (am_rd M 448 0) P W cd (ax_fo (fun _ H => hNi (am_rd M 448 0) (am_rd M 448 7) P W cd m (m + 1) H) k.toNat 0 (fl M 448 60)) m) a ?_ rfl ?_ rfl
      · rw [aq_292, if_neg (by omega), if_pos h1.2, kr_1_0 hK, show am_ob 1 10 = true from rfl, show am_ob 2 2 = true from rfl, ax_gt, ax_gt, c8, Option.bind_some]
        dsimp only []
        rw [if_neg (by rw [ax_b0]; exact fun q => q h2), kr_1_12 hK, show am_ob 424 1 = true from rfl, ax_gt, aq_273, kr_424_4 hK, kr_424_1 hK, show am_ob 424 1 = true from rfl, show am_ob 425 3 = true from rfl, ax_gt, ax_gt, e1, Option.bind_some]
        dsimp only []
        rw [e2, Option.bind_some]
        exact ax_ok_some ⟨q2, fun c i h => (f2 c i h).trans (f1 c i (by unfold jk at h; omega))⟩
      · intro N a' f
        have F : FH N 448 60 (fl M 448 60) := fun j _ _ => f _ _ (by unfold jk; omega)
        have E3 : ME N (am_rd M 448 0) (am_rd M 448 1) (am_rd M 448 7) P W cd := ME_same E2 fun c i hc => f c i (by unfold jk; omega)
        have m144 := m_144 (d := d) (t := m) a'.1 (RR_mB a')
        rw [f 448 1 (by unfold jk; omega)] at m144
        obtain ⟨x1, N1, y1, D1, F1⟩ := m_88 (d := d) a'.1 F
        obtain ⟨x2, N2, y2, z2, F2⟩ := m_297s (d := d) S h2.1 h2.2 h1.2 k.toNat 0 _ N1 (by omega) (by omega) (ax_Kp y1 a'.1 rfl) D1 (NF_ME E3 F1) (RR_H a) hd
        rw [aq_297, m_64, Option.bind_some]
        dsimp only []
        rw [if_neg (by rw [ax_b0]; exact fun q => q h1), show am_ob 447 11 = true from rfl, ax_gt, m144, Option.bind_some]
        dsimp only []
        rw [if_neg (by rw [ax_b0]; exact fun q => q h2), y1, Option.bind_some]
        dsimp only []
        rw [y2]
        exact ax_ok_some ⟨z2.trans (hz_ag h2.1 h2.2 bb.1.2.1.2 bb.1.1.2 _ _ _), NF_jk (NF_trans F1 F2)⟩
    · refine ⟨-1, M, M, ?_, ?_, a⟩
      · rw [aq_292, if_neg (by omega), if_pos h1.2, kr_1_0 hK, show am_ob 1 10 = true from rfl, show am_ob 2 2 = true from rfl, ax_gt, ax_gt, c8, Option.bind_some]
        dsimp only []
        rw [if_pos (by rw [ax_b0]; exact h2)]
      · rw [aq_297, m_64, Option.bind_some]
        dsimp only []
        rw [if_neg (by rw [ax_b0]; exact fun q => q h1), show am_ob 447 11 = true from rfl, ax_gt, m_144 hK (RR_mB a), Option.bind_some]
        dsimp only []
        rw [if_pos (by rw [ax_b0]; exact h2)]
  · refine ⟨-1, M, M, ?_, ?_, a⟩
    · rw [aq_292]
      by_cases h : k < 1
      · rw [if_pos h]
      · rw [if_neg h, if_neg (by omega)]
    · rw [aq_297, m_64, Option.bind_some]
      dsimp only []
      rw [if_pos (by rw [ax_b0]; exact h1)]
theorem op_free (a : RR M) {k m : Int} : OP d M 293 298 [(0, k), (0, m)] := by
  have hK := a.1
  have g := a.2.1.1
  have bb := a.2.1.2.1
  have c8 := c_8 (d := d) (t := m) hK (RR_gB a)
  rw [g.1.2.1] at c8
  obtain ⟨P, W, cd, E, E2, S⟩ := RR_env a
  have hd : fl M 448 60 162 ≤ 999 + 0 := a.2.1.2.2.1.2.2
  by_cases h1 : 1 ≤ k ∧ k ≤ 60
  · by_cases h2 : 0 ≤ m ∧ m < am_rd M 448 1
    · obtain ⟨r1, M1, e1, C1, f1⟩ := fs_c (d := d) a
      have K1 := ax_Kp e1 hK rfl
      obtain ⟨r2, M2, e2, q2, f2⟩ := c_274s (d := d) S h2.1 h2.2 h1.2 (k.toNat + 1) 0 _ M1 (by omega) (by omega) K1 C1 (CE_same E fun c i h => f1 c i (by omega)) (RR_H a) hd
      refine OP_ro (r := fz (hNi (am_rd M 448 0) (am_rd M 448 7) P W cd m (m + 1)) m (k.toNat + 1) 0 (fl M 448 60)) a ?_ rfl ?_ rfl
      · rw [aq_293, if_neg (by omega), if_pos h1.2, kr_1_0 hK, show am_ob 1 10 = true from rfl, show am_ob 2 2 = true from rfl, ax_gt, ax_gt, c8, Option.bind_some]
        dsimp only []
        rw [if_neg (by rw [ax_b0]; exact fun q => q h2), kr_1_12 hK, show am_ob 424 1 = true from rfl, ax_gt, aq_274, kr_424_4 hK, kr_424_1 hK, show am_ob 424 1 = true from rfl, show am_ob 425 3 = true from rfl, ax_gt, ax_gt, e1, Option.bind_some]
        dsimp only []
        rw [e2, Option.bind_some]
        exact ax_ok_some ⟨q2, fun c i h => (f2 c i h).trans (f1 c i (by unfold jk at h; omega))⟩
      · intro N a' f
        have F : FH N 448 60 (fl M 448 60) := fun j _ _ => f _ _ (by unfold jk; omega)
        have E3 : ME N (am_rd M 448 0) (am_rd M 448 1) (am_rd M 448 7) P W cd := ME_same E2 fun c i hc => f c i (by unfold jk; omega)
        have m144 := m_144 (d := d) (t := m) a'.1 (RR_mB a')
        rw [f 448 1 (by unfold jk; omega)] at m144
        obtain ⟨x1, N1, y1, D1, F1⟩ := m_88 (d := d) a'.1 F
        obtain ⟨x2, N2, y2, z2, F2⟩ := m_298s (d := d) S h2.1 h2.2 h1.2 (k.toNat + 1) 0 _ N1 (by omega) (by omega) (ax_Kp y1 a'.1 rfl) D1 (NF_ME E3 F1) (RR_H a) hd
        rw [aq_298, m_64, Option.bind_some]
        dsimp only []
        rw [if_neg (by rw [ax_b0]; exact fun q => q h1), show am_ob 447 11 = true from rfl, ax_gt, m144, Option.bind_some]
        dsimp only []
        rw [if_neg (by rw [ax_b0]; exact fun q => q h2), y1, Option.bind_some]
        dsimp only []
        rw [y2]
        exact ax_ok_some ⟨z2.trans (fz_ag h2.1 h2.2 bb.1.2.1.2 bb.1.1.2 _ _ _ _ ag_refl), NF_jk (NF_trans F1 F2)⟩
    · refine ⟨-1, M, M, ?_, ?_, a⟩
      · rw [aq_293, if_neg (by omega), if_pos h1.2, kr_1_0 hK, show am_ob 1 10 = true from rfl, show am_ob 2 2 = true from rfl, ax_gt, ax_gt, c8, Option.bind_some]
        dsimp only []
        rw [if_pos (by rw [ax_b0]; exact h2)]
      · rw [aq_298, m_64, Option.bind_some]
        dsimp only []
        rw [if_neg (by rw [ax_b0]; exact fun q => q h1), show am_ob 447 11 = true from rfl, ax_gt, m_144 hK (RR_mB a), Option.bind_some]
        dsimp only []
        rw [if_pos (by rw [ax_b0]; exact h2)]
  · refine ⟨-1, M, M, ?_, ?_, a⟩
    · rw [aq_293]
      by_cases h : k < 1
      · rw [if_pos h]
      · rw [if_neg h, if_neg (by omega)]
    · rw [aq_298, m_64, Option.bind_some]
      dsimp only []
      rw [if_pos (by rw [ax_b0]; exact h1)]
theorem op_lasts (a : RR M) {m t : Int} : OP d M 294 299 [(0, m), (0, t)] := by
  have hK := a.1
  have g := a.2.1.1
  have bb := a.2.1.2.1
  have c107 := c_107 (d := d) (m := m) (t := t) hK (RR_gB a)
  rw [g.1.1, g.1.2.1] at c107
  obtain ⟨P, W, cd, E, E2, S⟩ := RR_env a
  have hd : fl M 448 60 162 ≤ 999 + 1 := by have := a.2.1.2.2.1.2.2; show am_rd M 448 (60 + 162) ≤ 999 + 1; have h : am_rd M 448 222 ≤ 999 := this; rw [show (60 : Int) + 162 = 222 from rfl]; omega
  by_cases h : (0 ≤ m ∧ m < am_rd M 448 1) ∧ (0 ≤ t ∧ t < am_rd M 448 0)
  · obtain ⟨h1, h2⟩ := h
    have n6 := bb.1.2.1.2
    have T8 := bb.1.1.2
    have t8 : t < 8 := by omega
    obtain ⟨r1, M1, e1, C1, f1⟩ := fs_c (d := d) a
    have K1 := ax_Kp e1 hK rfl
    have E1 : CE M1 (am_rd M 448 0) (am_rd M 448 1) (am_rd M 448 7) P W cd := CE_same E fun c i h => f1 c i (by omega)
    obtain ⟨r2, M2, e2, q2, f2⟩ := c_174 (d := d) K1 (Or.inr rfl) C1 E1 S (RR_H a) h1.1 h1.2 h2.1 t8 (l := 0) (k := 0) (by omega) (by omega) (by omega) (by omega)
    have K2 := ax_Kp e2 K1 rfl
    have jj : ∀ c i, ¬ jk c i → am_rd M2 c i = am_rd M c i := fun c i h => (JF_jk f2 c i h).trans (f1 c i (by unfold jk at h; omega))
    refine OP_ro (r := if lx_val 0 (cd 0) (lx_nm P W (fl M 448 60) m t 0) = 0 then -1 else lz (hNi (am_rd M 448 0) (am_rd M 448 7) P W cd m (m + 1)) (fun H => lx_val 0 (cd 0) (lx_nm P W H m t 0)) m 200 1 (fl M 448 60)) a ?_ rfl ?_ rfl
    · rw [aq_294, kr_1_0 hK, show am_ob 1 10 = true from rfl, show am_ob 2 2 = true from rfl, ax_gt, ax_gt, c107, Option.bind_some]
      dsimp only []
      rw [if_neg (by rw [ax_b0]; exact fun q => q ⟨h1, h2⟩), kr_1_12 hK, show am_ob 424 1 = true from rfl, ax_gt, aq_275, kr_424_4 hK, kr_424_1 hK, show am_ob 424 1 = true from rfl, show am_ob 425 3 = true from rfl, ax_gt, ax_gt, e1, Option.bind_some]
      dsimp only []
      rw [kr_424_2 K1, kr_424_4 K1, show am_ob 39 4 = true from rfl, ax_gt, e2, Option.bind_some]
      dsimp only []
      by_cases hv : r2 = 0
      · rw [if_pos hv, if_pos (q2.symm.trans hv), Option.bind_some]
        exact ax_ok_some ⟨rfl, jj⟩
      · obtain ⟨r3, M3, e3, q3, f3⟩ := c_275s (d := d) S h1.1 h1.2 h2.1 t8 200 1 _ M2 (by omega) (by omega) K2 (JF_CH (Or.inr rfl) C1 f2) (CE_same E1 fun c i h => f2 c i (by omega) (by omega)) (RR_H a) hd
        rw [if_neg hv, if_neg (fun q => hv (q2.trans q)), e3, Option.bind_some]
        exact ax_ok_some ⟨q3, fun c i h => (f3 c i h).trans (jj c i h)⟩
    · intro N a' f
      have F : FH N 448 60 (fl M 448 60) := fun j _ _ => f _ _ (by unfold jk; omega)
      have E3 : ME N (am_rd M 448 0) (am_rd M 448 1) (am_rd M 448 7) P W cd := ME_same E2 fun c i hc => f c i (by unfold jk; omega)
      have m144 := m_144 (d := d) (t := m) a'.1 (RR_mB a')
      have m143 := m_143 (d := d) (t := t) a'.1 (RR_mB a')
      rw [f 448 1 (by unfold jk; omega)] at m144
      rw [f 448 0 (by unfold jk; omega)] at m143
      obtain ⟨x1, N1, y1, D1, F1⟩ := m_88 (d := d) a'.1 F
      have L1 := ax_Kp y1 a'.1 rfl
      obtain ⟨x2, N2, y2, z2, F2⟩ := m_221 (d := d) L1 D1 (NF_ME E3 F1) S (RR_H a) h1.1 (by omega) h2.1 t8
      have FF := NF_trans F1 (JF_NF F2)
      rw [aq_299, show am_ob 447 11 = true from rfl, ax_gt, m144, Option.bind_some]
      dsimp only []
      rw [if_neg (by rw [ax_b0]; exact fun q => q h1), m143, Option.bind_some]
      dsimp only []
      rw [if_neg (by rw [ax_b0]; exact fun q => q h2), y1, Option.bind_some]
      dsimp only []
      rw [y2, Option.bind_some]
      dsimp only []
      by_cases hv : x2 = 0
      · rw [if_pos hv, if_pos (z2.symm.trans hv)]
        exact ax_ok_some ⟨rfl, NF_jk FF⟩
      · obtain ⟨x3, N3, y3, z3, F3⟩ := m_299s (d := d) S h1.1 h1.2 h2.1 t8 200 1 _ N2 (by omega) (by omega) (ax_Kp y2 L1 rfl) (JF_NH D1 F2) (NF_ME E3 FF) (RR_H a) hd
        rw [if_neg hv, if_neg (fun q => hv (z2.trans q)), y3]
        exact ax_ok_some ⟨z3.trans (lz_ag h1.1 h1.2 bb.1.2.1.2 bb.1.1.2 h2.1 t8 _ _ _ _ ag_refl), NF_jk (NF_trans FF F3)⟩
  · refine ⟨-1, M, M, ?_, ?_, a⟩
    · rw [aq_294, kr_1_0 hK, show am_ob 1 10 = true from rfl, show am_ob 2 2 = true from rfl, ax_gt, ax_gt, c107, Option.bind_some]
      dsimp only []
      rw [if_pos (by rw [ax_b0]; exact h)]
    · rw [aq_299, show am_ob 447 11 = true from rfl, ax_gt, m_144 hK (RR_mB a), Option.bind_some]
      dsimp only []
      by_cases h1 : 0 ≤ m ∧ m < am_rd M 448 1
      · rw [if_neg (by rw [ax_b0]; exact fun q => q h1), m_143 hK (RR_mB a), Option.bind_some]
        dsimp only []
        rw [if_pos (by rw [ax_b0]; exact fun q => h ⟨h1, q⟩)]
      · rw [if_pos (by rw [ax_b0]; exact h1)]
end
