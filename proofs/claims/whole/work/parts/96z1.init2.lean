/-! the constructors: steps -/
theorem HH_ringB : ∀ k : Fin 30, ∀ s : Fin 2, (let h : Int := (if s.val = 0 then 57 else 239) + 6 * (k.val : Int); am_ob h 3 && ((am_ob (h + 1) 20 && (am_ln (h + 1) == 48)) && ((am_ob (h + 2) 20 && (am_ln (h + 2) == 48)) && ((am_ob (h + 3) 20 && (am_ln (h + 3) == 48)) && ((am_ob (h + 4) 20 && (am_ln (h + 4) == 6)) && (am_ob (h + 5) 20 && (am_ln (h + 5) == 6))))))) = true := by decide +kernel
theorem HH_of {h : Int} (h0 : 0 < h) (b : (am_ob h 3 && ((am_ob (h + 1) 20 && (am_ln (h + 1) == 48)) && ((am_ob (h + 2) 20 && (am_ln (h + 2) == 48)) && ((am_ob (h + 3) 20 && (am_ln (h + 3) == 48)) && ((am_ob (h + 4) 20 && (am_ln (h + 4) == 6)) && (am_ob (h + 5) 20 && (am_ln (h + 5) == 6))))))) = true) : HH h := by
  obtain ⟨b1, b⟩ := Bool.and_eq_true_iff.mp b
  obtain ⟨b2, b⟩ := Bool.and_eq_true_iff.mp b
  obtain ⟨b3, b⟩ := Bool.and_eq_true_iff.mp b
  obtain ⟨b4, b⟩ := Bool.and_eq_true_iff.mp b
  obtain ⟨b5, b6⟩ := Bool.and_eq_true_iff.mp b
  exact ⟨h0, b1, b2, b3, b4, b5, b6⟩
theorem HH_8 : HH 8 := HH_of (by decide) (by decide +kernel)
theorem HH_49 : HH 49 := HH_of (by decide) (by decide +kernel)
theorem HH_425 : HH 425 := HH_of (by decide) (by decide +kernel)
theorem HH_55 {k : Int} (k0 : 0 ≤ k) (k1 : k < 30) : HH (57 + 6 * k) := by
  have h := HH_ringB ⟨k.toNat, by omega⟩ ⟨0, by decide⟩
  simp only [Int.toNat_of_nonneg k0] at h
  exact HH_of (by omega) h
theorem HH_237 {k : Int} (k0 : 0 ≤ k) (k1 : k < 30) : HH (239 + 6 * k) := by
  have h := HH_ringB ⟨k.toNat, by omega⟩ ⟨1, by decide⟩
  simp only [Int.toNat_of_nonneg k0] at h
  exact HH_of (by omega) h
section
variable {d : Nat} {s : Int}
theorem i_132l (hs : am_ob s 9 = true) (hr : am_kd (s + 1) = 25) (hl : am_ln (s + 1) = 30) (s0 : 0 < s) (HR : ∀ k, 0 ≤ k → k < 30 → HH (s + 2 + 6 * k)) : ∀ (j : Nat) (k : Int) (M : am_M), k + j = 30 → 0 ≤ k → (M.1 : Int) = s + 2 + 6 * k → am_rd M s 0 = s + 1 → ax_ok (am_Ex d 132 9 [(2, s), (0, k)] [] M) (fun _ M' => (M'.1 : Int) = s + 182 ∧ (∀ q, k ≤ q → q < 30 → HZ M' (s + 2 + 6 * q)) ∧ (∀ i, am_rd M' (s + 1) i = if k ≤ i ∧ i < 30 then s + 2 + 6 * i else am_rd M (s + 1) i) ∧ ∀ c i, c ≠ s + 1 → (c < s + 2 + 6 * k ∨ s + 181 < c) → am_rd M' c i = am_rd M c i) := by
  have oi : am_ia (s + 1) = true := by unfold am_ia; rw [hr]; rfl
  intro j
  induction j with
  | zero =>
    intro k M hk k0 hM h0
    rw [aq_132_9, hs, ax_gt, h0, oi, ax_gt, hl, if_neg (by omega)]
    exact ax_ok_some ⟨by omega, fun q q0 q1 => by omega, fun i => (if_neg (by omega)).symm, fun _ _ _ _ => rfl⟩
  | succ j ih =>
    intro k M hk k0 hM h0
    have H := HR k k0 (by omega)
    have hA : ((am_al M).1 : Int) = s + 2 + 6 * k + 1 := by rw [al_1]; omega
    obtain ⟨r1, M1, e1, n1, z1, f1⟩ := i_21 (d := d) H hA (fun i => by rw [al_at hM, if_pos rfl])
    have oa : (am_ar (s + 1) 24 k && am_ob (s + 2 + 6 * k) 8 || am_ar (s + 1) 25 k && am_ob (s + 2 + 6 * k) 3) = true := by
      have : am_ar (s + 1) 25 k = true := by unfold am_ar; rw [hr, hl, decide_eq_true k0, decide_eq_true (by omega)]; rfl
      rw [this, H.2.1, Bool.true_and, Bool.or_true]
    rw [aq_132_9, hs, ax_gt, h0, oi, ax_gt, hl, if_pos (by omega), hM, H.2.1, ax_gt, ax_let, ax_gt, e1, Option.bind_some]
    dsimp only []
    rw [H.2.1] at oa
    rw [oa, ax_gt, ax_let, ax_w32 (by omega) (by omega), ax_let]
    obtain ⟨r2, M2, e2, n2, z2, w2, f2⟩ := ih (k + 1) (am_wr M1 (s + 1) k (s + 2 + 6 * k)) (by omega) (by omega) (by rw [wr_1]; omega) (by rw [ax_wc (by omega), f1 s 0 (by omega), al_at hM, if_neg (by omega)]; exact h0)
    refine ⟨r2, M2, e2, n2, fun q q0 q1 => ?_, fun i => ?_, fun c i h1 h2 => ?_⟩
    · by_cases e : q = k
      · rw [e]
        exact HZ_same z1 fun c i h1 h2 => (f2 c i (by omega) (by omega)).trans (ax_wc (by omega))
      · exact z2 q (by omega) q1
    · rw [w2]
      by_cases h : k + 1 ≤ i ∧ i < 30
      · rw [if_pos h, if_pos (by omega)]
      · rw [if_neg h]
        by_cases e : i = k
        · rw [if_pos (by omega), e, ax_ws]
        · rw [if_neg (by omega), ax_wi e, f1 _ i (by omega), al_at hM, if_neg (by omega)]
    · rw [f2 c i h1 (by omega), ax_wc h1, f1 c i (by omega), al_at hM, if_neg (by omega)]
theorem i_132 {M : am_M} (hs : am_ob s 9 = true) (hr : am_kd (s + 1) = 25) (hl : am_ln (s + 1) = 30) (s0 : 0 < s) (HR : ∀ k, 0 ≤ k → k < 30 → HH (s + 2 + 6 * k)) (hM : (M.1 : Int) = s + 1) (hz : ∀ i, am_rd M s i = 0) : ax_ok (am_Call d 132 [(2, s)] M) (fun _ M' => (M'.1 : Int) = s + 182 ∧ (∀ q, 0 ≤ q → q < 30 → HZ M' (s + 2 + 6 * q)) ∧ (∀ i, am_rd M' (s + 1) i = if 0 ≤ i ∧ i < 30 then s + 2 + 6 * i else 0) ∧ (∀ i, am_rd M' s i = if i = 0 then s + 1 else 0) ∧ ∀ c i, (c < s ∨ s + 181 < c) → am_rd M' c i = am_rd M c i) := by
  have b1 : (am_ob (s + 1) 25 && (am_ln (s + 1) == 30)) = true := by unfold am_ob; rw [hr, hl]; rfl
  rw [aq_132, ax_gtb (decide_eq_true s0), hM, b1, ax_gt, ax_let, hs, ax_gt, ax_let]
  have n1 : ((am_wr (am_al M) s 0 (s + 1)).1 : Int) = s + 2 + 6 * 0 := by rw [wr_1, al_1]; omega
  have r1 : ∀ c i, am_rd (am_wr (am_al M) s 0 (s + 1)) c i = if c = s ∧ i = 0 then s + 1 else if c = s + 1 then 0 else am_rd M c i := fun c i => by rw [ax_rw, al_at hM]
  generalize am_wr (am_al M) s 0 (s + 1) = M1 at *
  obtain ⟨r2, M2, e2, n2, z2, w2, f2⟩ := i_132l (d := d) hs hr hl s0 HR 30 0 M1 (by omega) (by omega) n1 (by rw [r1, if_pos ⟨rfl, rfl⟩])
  refine ⟨r2, M2, e2, n2, z2, fun i => ?_, fun i => ?_, fun c i h => ?_⟩
  · have q : am_rd M1 (s + 1) i = 0 := (r1 _ i).trans ((if_neg (by omega)).trans (if_pos rfl))
    rw [w2, q]
  · rw [f2 s i (by omega) (by omega), r1, hz, if_neg (show ¬ s = s + 1 by omega)]
    by_cases e : i = 0
    · rw [if_pos ⟨rfl, e⟩, if_pos e]
    · rw [if_neg fun q => e q.2, if_neg e]
  · rw [f2 c i (by omega) (by omega), r1, if_neg (by omega), if_neg (by omega)]
end
