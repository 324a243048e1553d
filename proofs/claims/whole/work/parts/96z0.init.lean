/-! the constructors: memory that grows -/
theorem wr_1 {M : am_M} {c i v : Int} : (am_wr M c i v).1 = M.1 := rfl
theorem al_1 {M : am_M} : (am_al M).1 = M.1 + 1 := rfl
theorem al_rd {M : am_M} {c i : Int} : am_rd (am_al M) c i = if c = (M.1 : Int) then 0 else am_rd M c i := rfl
/-- a new cell of the number n, as it is used below -/
theorem al_c {M : am_M} {n : Int} (h : (M.1 : Int) = n) : ((am_al M).1 : Int) = n + 1 := by rw [al_1]; omega
theorem al_at {M : am_M} {n c i : Int} (h : (M.1 : Int) = n) : am_rd (am_al M) c i = if c = n then 0 else am_rd M c i := by rw [al_rd, h]
/-- the shape of hands at h -/
def HH (h : Int) : Prop := 0 < h ∧ am_ob h 3 = true ∧ (am_ob (h + 1) 20 && (am_ln (h + 1) == 48)) = true ∧ (am_ob (h + 2) 20 && (am_ln (h + 2) == 48)) = true ∧ (am_ob (h + 3) 20 && (am_ln (h + 3) == 48)) = true ∧ (am_ob (h + 4) 20 && (am_ln (h + 4) == 6)) = true ∧ (am_ob (h + 5) 20 && (am_ln (h + 5) == 6)) = true
/-- hands as they are made at h -/
def HZ (M : am_M) (h : Int) : Prop := (∀ i, am_rd M h i = if i = 7 then 73 else if 0 ≤ i ∧ i < 5 then h + 1 + i else 0) ∧ (∀ c i, h + 1 ≤ c → c ≤ h + 4 → am_rd M c i = 0) ∧ ∀ i, am_rd M (h + 5) i = if 0 ≤ i ∧ i < 6 then -1 else 0
section
variable {M : am_M} {d : Nat} {h : Int}
theorem HZ_same {M' : am_M} (a : HZ M h) (f : ∀ c i, h ≤ c → c ≤ h + 5 → am_rd M' c i = am_rd M c i) : HZ M' h := by
  obtain ⟨a1, a2, a3⟩ := a
  exact ⟨fun i => (f h i (by omega) (by omega)).trans (a1 i), fun c i h1 h2 => (f c i (by omega) (by omega)).trans (a2 c i h1 h2), fun i => (f (h + 5) i (by omega) (by omega)).trans (a3 i)⟩
theorem i_21l (o3 : am_ob h 3 = true) (o5 : am_kd (h + 5) = 20) (l5 : am_ln (h + 5) = 6) : ∀ (j : Nat) (k : Int) (M : am_M), k + j = 6 → 0 ≤ k → am_rd M h 4 = h + 5 → ax_ok (am_Ex d 21 28 [(2, h), (0, k)] [] M) (fun _ M' => M'.1 = M.1 ∧ ∀ c i, am_rd M' c i = if c = h + 5 ∧ k ≤ i ∧ i < 6 then -1 else am_rd M c i) := by
  have oi : am_ia (h + 5) = true := by unfold am_ia; rw [o5]; rfl
  intro j
  induction j with
  | zero =>
    intro k M hk k0 h4
    rw [aq_21_28, o3, ax_gt, h4, oi, ax_gt, l5, if_neg (by omega)]
    exact ax_ok_some ⟨rfl, fun c i => (if_neg (by omega)).symm⟩
  | succ j ih =>
    intro k M hk k0 h4
    have oa : am_ar (h + 5) 20 k = true := by unfold am_ar; rw [o5, l5, decide_eq_true k0, decide_eq_true (by omega)]; rfl
    rw [aq_21_28, o3, ax_gt, h4, oi, ax_gt, l5, if_pos (by omega), oa, ax_gt, ax_let, ax_w32 (by omega) (by omega), ax_let]
    obtain ⟨r, M2, e, s, f⟩ := ih (k + 1) (am_wr M (h + 5) k (-1)) (by omega) (by omega) ((ax_wc (by omega)).trans h4)
    refine ⟨r, M2, e, s, fun c i => ?_⟩
    rw [f, ax_rw]
    (repeat' split) <;> first | rfl | (exfalso; omega)
/-- a new cell, its number put into a field -/
theorem i_st {M : am_M} {h n k v : Int} (hM : (M.1 : Int) = n) (hn : h ≠ n) : ((am_wr (am_al M) h k v).1 : Int) = n + 1 ∧ (∀ c i, c ≠ h → c ≠ n → am_rd (am_wr (am_al M) h k v) c i = am_rd M c i) ∧ (∀ i, am_rd (am_wr (am_al M) h k v) h i = if i = k then v else am_rd M h i) ∧ ∀ i, am_rd (am_wr (am_al M) h k v) n i = 0 := by
  refine ⟨by rw [wr_1, al_1]; omega, fun c i h1 h2 => ?_, fun i => ?_, fun i => ?_⟩
  · rw [ax_wc h1, al_at hM, if_neg h2]
  · by_cases e : i = k
    · rw [if_pos e, e, ax_ws]
    · rw [if_neg e, ax_wi e, al_at hM, if_neg hn]
  · rw [ax_wc (fun e => hn e.symm), al_at hM, if_pos rfl]
theorem i_21a (H : HH h) (hM : (M.1 : Int) = h + 1) (hz : ∀ i, am_rd M h i = 0) : ∃ M6, am_Call d 21 [(2, h)] M = am_Ex d 21 28 [(2, h), (0, 0)] [] M6 ∧ (M6.1 : Int) = h + 6 ∧ (∀ i, am_rd M6 h i = if i = 7 then 73 else if i = 4 then h + 5 else if i = 3 then h + 4 else if i = 2 then h + 3 else if i = 1 then h + 2 else if i = 0 then h + 1 else 0) ∧ (∀ c i, h + 1 ≤ c → c ≤ h + 5 → am_rd M6 c i = 0) ∧ ∀ c i, (c < h ∨ h + 5 < c) → am_rd M6 c i = am_rd M c i := by
  obtain ⟨h0, o3, b1, b2, b3, b4, b5⟩ := H
  rw [aq_21, ax_gtb (decide_eq_true h0), hM, b1, ax_gt, ax_let, o3, ax_gt, ax_let]
  obtain ⟨n1, s1, f1, z1⟩ := i_st (M := M) (h := h) (k := 0) (v := h + 1) hM (by omega)
  generalize am_wr (am_al M) h 0 (h + 1) = M1 at *
  have n1 : (M1.1 : Int) = h + 2 := by omega
  rw [n1, b2, ax_gt, ax_let, ax_let]
  obtain ⟨n2, s2, f2, z2⟩ := i_st (M := M1) (h := h) (k := 1) (v := h + 2) n1 (by omega)
  generalize am_wr (am_al M1) h 1 (h + 2) = M2 at *
  have n2 : (M2.1 : Int) = h + 3 := by omega
  rw [n2, b3, ax_gt, ax_let, ax_let]
  obtain ⟨n3, s3, f3, z3⟩ := i_st (M := M2) (h := h) (k := 2) (v := h + 3) n2 (by omega)
  generalize am_wr (am_al M2) h 2 (h + 3) = M3 at *
  have n3 : (M3.1 : Int) = h + 4 := by omega
  rw [n3, b4, ax_gt, ax_let, ax_let]
  obtain ⟨n4, s4, f4, z4⟩ := i_st (M := M3) (h := h) (k := 3) (v := h + 4) n3 (by omega)
  generalize am_wr (am_al M3) h 3 (h + 4) = M4 at *
  have n4 : (M4.1 : Int) = h + 5 := by omega
  rw [n4, b5, ax_gt, ax_let, ax_let]
  obtain ⟨n5, s5, f5, z5⟩ := i_st (M := M4) (h := h) (k := 4) (v := h + 5) n4 (by omega)
  generalize am_wr (am_al M4) h 4 (h + 5) = M5 at *
  rw [ax_let]
  refine ⟨am_wr M5 h 7 73, rfl, by rw [wr_1]; omega, fun i => ?_, fun c i c1 c2 => ?_, fun c i hc => ?_⟩
  · by_cases e : i = 7
    · rw [if_pos e, e, ax_ws]
    · rw [if_neg e, ax_wi e, f5, f4, f3, f2, f1, hz]
  · have hc : c = h + 1 ∨ c = h + 2 ∨ c = h + 3 ∨ c = h + 4 ∨ c = h + 5 := by omega
    rw [ax_wc (by omega)]
    rcases hc with rfl | rfl | rfl | rfl | rfl
    · rw [s5 _ _ (by omega) (by omega), s4 _ _ (by omega) (by omega), s3 _ _ (by omega) (by omega), s2 _ _ (by omega) (by omega), z1]
    · rw [s5 _ _ (by omega) (by omega), s4 _ _ (by omega) (by omega), s3 _ _ (by omega) (by omega), z2]
    · rw [s5 _ _ (by omega) (by omega), s4 _ _ (by omega) (by omega), z3]
    · rw [s5 _ _ (by omega) (by omega), z4]
    · rw [z5]
  · rw [ax_wc (by omega), s5 _ _ (by omega) (by omega), s4 _ _ (by omega) (by omega), s3 _ _ (by omega) (by omega), s2 _ _ (by omega) (by omega), s1 _ _ (by omega) (by omega)]
theorem i_21 (H : HH h) (hM : (M.1 : Int) = h + 1) (hz : ∀ i, am_rd M h i = 0) : ax_ok (am_Call d 21 [(2, h)] M) (fun _ M' => (M'.1 : Int) = h + 6 ∧ HZ M' h ∧ ∀ c i, (c < h ∨ h + 5 < c) → am_rd M' c i = am_rd M c i) := by
  have k5 : am_kd (h + 5) = 20 := ax_kdB (Bool.and_eq_true_iff.mp H.2.2.2.2.2.2).1
  have l5 : am_ln (h + 5) = 6 := eq_of_beq (Bool.and_eq_true_iff.mp H.2.2.2.2.2.2).2
  obtain ⟨M6, e6, n6, g1, g2, g3⟩ := i_21a (d := d) H hM hz
  obtain ⟨r, M7, e, s, f⟩ := i_21l (d := d) H.2.1 k5 l5 6 0 M6 (by omega) (by omega) (by rw [g1]; rfl)
  refine ⟨r, M7, e6.trans e, by rw [s]; exact n6, ⟨fun i => ?_, fun c i h1 h2 => ?_, fun i => ?_⟩, fun c i hc => ?_⟩
  · rw [f, if_neg (by omega), g1]
    clear e6 e g1 g2 g3 f
    (repeat' split) <;> omega
  · rw [f, if_neg (by omega), g2 c i h1 (by omega)]
  · rw [f, g2 _ i (by omega) (by omega)]
    by_cases hi : 0 ≤ i ∧ i < 6
    · rw [if_pos hi, if_pos ⟨rfl, hi⟩]
    · rw [if_neg hi, if_neg fun q => hi q.2]
  · rw [f, if_neg (by omega), g3 c i hc]
end
