/-! wrongs -/
section
variable {M : am_M} {d : Nat} {T n al c N m k : Int} {P W H0 : Int → Int} {cd : Int → Option (List (Int × Int))}
theorem v01 {H : Int → Int} {t : Int} (E : ES T n al P W cd) (B : HB T H) (m0 : 0 ≤ m) (m1 : m < 6) (t0 : 0 ≤ t) (t1 : t < 8) : lx_val 0 (cd 0) (lx_nm P W H m t 0) = 0 ∨ lx_val 0 (cd 0) (lx_nm P W H m t 0) = 1 := by
  have h8 : lx_nm P W H m t 0 8 = 0 := rfl
  have h := (lx_valr E (k := 0) (lx_nmN E B m0 m1 t0 t1 (k := 0) (by omega) (by omega)) (by omega) (by omega) (by rw [h8]; omega)).2.2 rfl
  omega
theorem kv_01 {t S : Int} (E : ES T n al P W cd) (B : HB T H0) (m0 : 0 ≤ m) (m1 : m < 6) (t0 : 0 ≤ t) (t1 : t < T) (N0 : 0 ≤ N) (N4 : N ≤ 4) (hd : H0 162 ≤ 999) : kv N P W cd m k H0 t S = 0 ∨ kv N P W cd m k H0 t S = 1 := by
  have T8 := E.1
  have key := ax_fo_inv (f := kwS P W cd m t k S) (P := fun i A => HB T A ∧ A 162 = H0 162 + i) N.toNat 0 H0 (fun i A i0 i1 h => by
    obtain ⟨g1, g2⟩ := kwS_B (k := k) (S := S) (i := i) E h.1 m0 m1 t0 t1 (by omega)
    exact ⟨g1, by omega⟩) ⟨B, by omega⟩
  unfold kv
  exact v01 E key.1 m0 m1 t0 (by omega)
theorem lv_01 {t : Int} {L : Int → Int} (E : ES T n al P W cd) (B : HB T H0) (m0 : 0 ≤ m) (m1 : m < 6) (t0 : 0 ≤ t) (t1 : t < T) (N0 : 0 ≤ N) (N4 : N ≤ 4) (hd : H0 162 ≤ 999) (hL : ∀ j, 0 ≤ j → j < N → 0 ≤ L j ∧ L j ≤ T) : lx_val 0 (cd 0) (lx_nm P W (lv N T P W cd m k H0 L) m t 0) = 0 ∨ lx_val 0 (cd 0) (lx_nm P W (lv N T P W cd m k H0 L) m t 0) = 1 := by
  have T8 := E.1
  have key := ax_fo_inv (f := lwS T P W cd m k L) (P := fun i A => HB T A ∧ A 162 = H0 162 + i) N.toNat 0 H0 (fun i A i0 i1 h => by
    have l := hL i i0 (by omega)
    obtain ⟨g1, g2⟩ := lwS_B (k := k) (L := L) (i := i) E h.1 m0 m1 l.1 l.2 (by omega)
    exact ⟨g1, by omega⟩) ⟨B, by omega⟩
  unfold lv
  exact v01 E key.1 m0 m1 t0 (by omega)
def wrV (M : am_M) (m N k b i : Int) : Prop := ((0 ≤ m ∧ m < am_rd M 448 1) ∧ am_rd M 448 (216 + m) = 0) ∧ (1 ≤ N ∧ N ≤ 4) ∧ (1 ≤ k ∧ k ≤ 99) ∧ (0 ≤ b ∧ b ≤ 8) ∧ (-1 ≤ i ∧ i ≤ N - 1)
theorem m_285n {b i : Int} (hK : ax_K M) (mB : mb_B M) (h : ¬ wrV M m N k b i) : am_Call d 285 [(2, 447), (0, m), (0, N), (0, k), (0, b), (0, i)] M = some (-1, M) := by
  rw [aq_285, show am_ob 447 11 = true from rfl, ax_gt, m_196 hK mB, Option.bind_some]
  dsimp only []
  by_cases hA : (0 ≤ m ∧ m < am_rd M 448 1) ∧ am_rd M 448 (216 + m) = 0
  · rw [if_neg (by rw [ax_b0]; exact fun q => q hA), m_64, Option.bind_some]
    dsimp only []
    by_cases hB : 1 ≤ N ∧ N ≤ 4
    · rw [if_neg (by rw [ax_b0]; exact fun q => q hB), m_64, Option.bind_some]
      dsimp only []
      by_cases hC : 1 ≤ k ∧ k ≤ 99
      · rw [if_neg (by rw [ax_b0]; exact fun q => q hC), m_64, Option.bind_some]
        dsimp only []
        by_cases hD : 0 ≤ b ∧ b ≤ 8
        · rw [if_neg (by rw [ax_b0]; exact fun q => q hD), ax_w32 (by omega) (by omega), m_64, Option.bind_some]
          dsimp only []
          by_cases hE : -1 ≤ i ∧ i ≤ N - 1
          · exact absurd ⟨hA, hB, hC, hD, hE⟩ h
          · rw [if_pos (by rw [ax_b0]; exact hE)]
        · rw [if_pos (by rw [ax_b0]; exact hD)]
      · rw [if_pos (by rw [ax_b0]; exact hC)]
    · rw [if_pos (by rw [ax_b0]; exact hB)]
  · rw [if_pos (by rw [ax_b0]; exact hA)]
theorem m_285v {b i : Int} (hK : ax_K M) (mB : mb_B M) (h : wrV M m N k b i) : am_Call d 285 [(2, 447), (0, m), (0, N), (0, k), (0, b), (0, i)] M = am_Ex d 285 53 [(2, 447), (0, m), (0, N), (0, k), (0, b), (0, i), (0, pwc (am_rd M 448 0 + 1) N.toNat), (0, -1), (0, 0), am_N, am_N] [] M := by
  obtain ⟨hA, hB, hC, hD, hE⟩ := h
  have T8 := mB.1
  rw [aq_285, show am_ob 447 11 = true from rfl, ax_gt, m_196 hK mB, Option.bind_some]
  dsimp only []
  rw [if_neg (by rw [ax_b0]; exact fun q => q hA), m_64, Option.bind_some]
  dsimp only []
  rw [if_neg (by rw [ax_b0]; exact fun q => q hB), m_64, Option.bind_some]
  dsimp only []
  rw [if_neg (by rw [ax_b0]; exact fun q => q hC), m_64, Option.bind_some]
  dsimp only []
  rw [if_neg (by rw [ax_b0]; exact fun q => q hD), ax_w32 (by omega) (by omega), m_64, Option.bind_some]
  dsimp only []
  rw [if_neg (by rw [ax_b0]; exact fun q => q hE)]
  have key : ∀ (j : Nat) (x : Int), x + j = N → 0 ≤ x → am_Ex d 285 34 [(2, 447), (0, m), (0, N), (0, k), (0, b), (0, i), (0, pwc (am_rd M 448 0 + 1) x.toNat), (0, x), am_N, am_N, am_N] [] M = am_Ex d 285 53 [(2, 447), (0, m), (0, N), (0, k), (0, b), (0, i), (0, pwc (am_rd M 448 0 + 1) N.toNat), (0, -1), (0, 0), am_N, am_N] [] M := by
    intro j
    induction j with
    | zero =>
      intro x hx x0
      have : x = N := by omega
      subst this
      rw [aq_285_34, if_neg (Int.lt_irrefl x)]
    | succ j ih =>
      intro x hx x0
      have p1 := pwc_b (c := am_rd M 448 0 + 1) (by omega) (by omega) (e := (x + 1).toNat) (by omega)
      have e1 : (x + 1).toNat = x.toNat + 1 := by omega
      have e2 : pwc (am_rd M 448 0 + 1) (x + 1).toNat = pwc (am_rd M 448 0 + 1) x.toNat * (am_rd M 448 0 + 1) := by rw [e1]; rfl
      rw [aq_285_34, if_pos (by omega), show am_ob 447 11 = true from rfl, ax_gt, kr_447_0 hK, ax_a_448, ax_gi (by omega) (by omega), ax_w32 (x := am_rd M 448 0 + 1) (by omega) (by omega), ← e2, ax_w32 (by omega) (by omega), ax_let, ax_w32 (by omega) (by omega), ax_let]
      exact ih (x + 1) (by omega) (by omega)
  exact key N.toNat 0 (by omega) (by omega)
theorem c_262n {b i : Int} (a : RR M) (h : ¬ wrV M m N k b i) : am_Call d 262 [(2, 1), (0, m), (0, N), (0, k), (0, b), (0, i)] M = some (-1, M) := by
  have hK := a.1
  have c8 := c_8 (d := d) (t := m) hK (RR_gB a)
  rw [a.2.1.1.1.2.1] at c8
  have n6 := a.2.1.2.1.1.2.1
  rw [aq_262, kr_1_0 hK, show am_ob 1 10 = true from rfl, show am_ob 2 2 = true from rfl, ax_gt, ax_gt, c8, Option.bind_some]
  dsimp only []
  by_cases hm : 0 ≤ m ∧ m < am_rd M 448 1
  · rw [if_neg (by rw [ax_b0]; exact fun q => q hm), kr_1_2 hK, show am_ob 8 3 = true from rfl, ax_gt, c_25 hK h88 (RR_C a) hm.1 (by omega), Option.bind_some]
    dsimp only []
    by_cases hf : am_rd M 448 (216 + m) = 0
    · have hf2 : fl M 448 60 (156 + m) = 0 := (fl_at (by omega)).trans hf
      rw [if_pos (by rw [ax_b0]; exact fun q => q hf2)]
      have h2 : ¬ ((1 ≤ N ∧ N ≤ 4) ∧ (1 ≤ k ∧ k ≤ 99) ∧ (0 ≤ b ∧ b ≤ 8) ∧ (-1 ≤ i ∧ i ≤ N - 1)) := fun q => h ⟨⟨hm, hf⟩, q⟩
      by_cases h3 : N < 1
      · rw [if_pos h3]
      rw [if_neg h3]
      by_cases h4 : N ≤ 4
      · rw [if_pos h4]
        by_cases h5 : k < 1
        · rw [if_pos h5]
        rw [if_neg h5]
        by_cases h6 : k ≤ 99
        · rw [if_pos h6]
          by_cases h7 : b < 0
          · rw [if_pos h7]
          rw [if_neg h7]
          by_cases h8 : b ≤ 8
          · rw [if_pos h8]
            by_cases h9 : i < -1
            · rw [if_pos h9]
            rw [if_neg h9, if_neg (by omega)]
          · rw [if_neg h8]
        · rw [if_neg h6]
      · rw [if_neg h4]
    · have hf2 : ¬ fl M 448 60 (156 + m) = 0 := fun q => hf ((fl_at (by omega)).symm.trans q)
      rw [if_neg (by rw [ax_b0]; exact fun q => q hf2)]
  · rw [if_pos (by rw [ax_b0]; exact hm)]
theorem op_wrongs (a : RR M) {m N k b i : Int} : OP d M 262 285 [(0, m), (0, N), (0, k), (0, b), (0, i)] := by
  have hK := a.1
  have g := a.2.1.1
  have bb := a.2.1.2.1
  by_cases h : wrV M m N k b i
  · have h' := h
    obtain ⟨⟨hm, hf⟩, hN, hk, hb, hi⟩ := h
    have n6 := bb.1.2.1
    have T8 := bb.1.1
    obtain ⟨P, W, cd, E, E2, S⟩ := RR_env a
    have c8 := c_8 (d := d) (t := m) hK (RR_gB a)
    rw [g.1.2.1] at c8
    have hd : fl M 448 60 162 ≤ 999 := a.2.1.2.2.1.2.2
    have B := RR_H a
    have hf2 : fl M 448 60 (156 + m) = 0 := (fl_at (by omega)).trans hf
    have sh := ax_shl1 (k := N) (by omega) (by omega)
    have p0 := bi_p0 (f := N)
    have p16 : (2 ^ N.toNat : Nat) ≤ 16 := Nat.pow_le_pow_right (n := 2) (by decide) (by omega : N.toNat ≤ 4)
    obtain ⟨r1, M1, e1, q1, f1⟩ := c_236a (d := d) S hm.1 hm.2 hk.1 hk.2 hN.1 hN.2 B hd sh (by omega) (by omega) (am_rd M 448 0).toNat 0 M (by omega) (by omega) hK (RR_C a) E
    have K1 := ax_KE (r := (r1, M1)) rfl hK e1
    have e1' : am_Call d 236 [(2, 424), (0, m), (0, N), (0, k)] M = some (r1, M1) := by rw [aq_236]; exact e1
    have kb : ∀ t s, 0 ≤ t → t < am_rd M 448 0 → 0 ≤ s → s < ((2 ^ N.toNat : Nat) : Int) → am_rd M1 (432 + t) s = kv N P W cd m k (fl M 448 60) t s ∧ 0 ≤ kv N P W cd m k (fl M 448 60) t s ∧ kv N P W cd m k (fl M 448 60) t s ≤ 1 := fun t s t0 t1 s0 s1 => by
      have := kv_01 (k := k) (t := t) (S := s) S B hm.1 (by omega : m < 6) t0 t1 (by omega : 0 ≤ N) hN.2 hd
      exact ⟨q1 t s t0 t1 s0 s1, by omega⟩
    obtain ⟨r2, M2, e2, q2, f2⟩ := c_106 (d := d) (B := b) (c := am_rd M 448 0 + 1) K1 ((f1 2 5 (by omega)).trans g.1.1) rfl T8.1 T8.2 hN.1 hN.2 hi.1 (by omega : i < N) kb
    have jj : ∀ c x, ¬ jk c x → am_rd M2 c x = am_rd M c x := fun c x h => by
      unfold jk at h
      exact (f2 c x (by omega) (by omega)).trans (f1 c x (by omega))
    have ew : ax_fo (wsF (am_rd M 448 0 + 1) N.toNat b (ck (am_rd M 448 0 + 1) N (am_rd M 448 0) (kv N P W cd m k (fl M 448 60)))) (pwc (am_rd M 448 0 + 1) N.toNat).toNat 0 (-1, 0) = ax_fo (wsF (am_rd M 448 0 + 1) N.toNat b (LB N (am_rd M 448 0) (am_rd M 448 0 + 1) P W cd m k (fl M 448 60))) (pwc (am_rd M 448 0 + 1) N.toNat).toNat 0 (-1, 0) := ax_fo_congr _ _ _ fun p x _ _ => by
      unfold wsF
      rw [ck_LB S rfl hm.1 hm.2 hN.1 hN.2 B p (fun t t0 t1 => lv_01 S B hm.1 (by omega) t0 t1 (by omega) hN.2 hd fun j j0 j1 => by
        have := dgt_r (c := am_rd M 448 0 + 1) (by omega) (N - 1 - j).toNat p
        unfold ckD
        omega)]
    refine OP_ro (r := wrR (am_rd M 448 0 + 1) N i (ax_fo (wsF (am_rd M 448 0 + 1) N.toNat b (LB N (am_rd M 448 0) (am_rd M 448 0 + 1) P W cd m k (fl M 448 60))) (pwc (am_rd M 448 0 + 1) N.toNat).toNat 0 (-1, 0))) a ?_ rfl ?_ rfl
    · rw [aq_262, kr_1_0 hK, show am_ob 1 10 = true from rfl, show am_ob 2 2 = true from rfl, ax_gt, ax_gt, c8, Option.bind_some]
      dsimp only []
      rw [if_neg (by rw [ax_b0]; exact fun q => q hm), kr_1_2 hK, show am_ob 8 3 = true from rfl, ax_gt, c_25 hK h88 (RR_C a) hm.1 (by omega), Option.bind_some]
      dsimp only []
      rw [if_pos (by rw [ax_b0]; exact fun q => q hf2), if_neg (by omega), if_pos hN.2, if_neg (by omega), if_pos hk.2, if_neg (by omega), if_pos hb.2, if_neg (by omega), if_pos (by omega), kr_1_12 hK, show am_ob 424 1 = true from rfl, ax_gt, e1', Option.bind_some]
      dsimp only []
      rw [kr_1_12 K1, show am_ob 424 1 = true from rfl, ax_gt, e2, Option.bind_some]
      exact ax_ok_some ⟨by rw [q2, ew], jj⟩
    · intro N2 a' f
      have q8 : ∀ i, am_rd N2 448 i = am_rd M 448 i := fun i => f _ _ (by unfold jk; omega)
      have hv : wrV N2 m N k b i := by
        unfold wrV
        rw [q8, q8]
        exact h'
      have F : FH N2 448 60 (fl M 448 60) := fun j _ _ => f _ _ (by unfold jk; omega)
      have E3 : ME N2 (am_rd M 448 0) (am_rd M 448 1) (am_rd M 448 7) P W cd := ME_same E2 fun c i hc => f c i (by unfold jk; omega)
      have pb := pwc_b (c := am_rd M 448 0 + 1) (by omega) (by omega) (e := N.toNat) (by omega)
      obtain ⟨r3, M3, e3, q3, f3⟩ := m_285s (d := d) (B := b) (c := am_rd M 448 0 + 1) S rfl hm.1 hm.2 hk.1 hk.2 hN.1 hN.2 hi.1 (by omega : i < N) B hd (pwc (am_rd M 448 0 + 1) N.toNat) pb.2 (pwc (am_rd M 448 0 + 1) N.toNat).toNat 0 (-1, 0) N2 (by omega) (by omega) a'.1 F E3 (Or.inl rfl)
      rw [m_285v a'.1 (RR_mB a') hv, q8 0, e3]
      refine ax_ok_some ⟨q3, fun c x h => ?_⟩
      unfold jk at h
      exact f3 c x (by omega) (by omega) (by omega) (by omega)
  · exact ⟨-1, M, M, c_262n a h, m_285n hK (RR_mB a) h, a⟩
end
