/-! the constructors: the small ones -/
section
variable {M : am_M} {d : Nat} {g : Int}
/-- a field set, no new cell -/
theorem i_wr {h k v : Int} : ((am_wr M h k v).1 : Int) = (M.1 : Int) ∧ (∀ c i, c ≠ h → am_rd (am_wr M h k v) c i = am_rd M c i) ∧ ∀ i, am_rd (am_wr M h k v) h i = if i = k then v else am_rd M h i :=
  ⟨rfl, fun c i hc => ax_wc hc, fun i => by
    by_cases e : i = k
    · rw [if_pos e, e, ax_ws]
    · rw [if_neg e, ax_wi e]⟩
theorem i_5 (hg : g = 2 ∨ g = 43) (hM : (M.1 : Int) = g + 1) (hz : ∀ i, am_rd M g i = 0) : ax_ok (am_Call d 5 [(2, g)] M) (fun _ M' => (M'.1 : Int) = g + 6 ∧ (∀ i, am_rd M' g i = if i = 12 then -1 else if i = 4 then g + 5 else if i = 3 then g + 4 else if i = 2 then g + 3 else if i = 1 then g + 2 else if i = 0 then g + 1 else 0) ∧ (∀ c i, g + 1 ≤ c → c ≤ g + 5 → am_rd M' c i = 0) ∧ ∀ c i, (c < g ∨ g + 5 < c) → am_rd M' c i = am_rd M c i) := by
  have b : (am_ob g 2 = true ∧ 0 < g) ∧ (am_ob (g + 1) 20 && (am_ln (g + 1) == 8)) = true ∧ (am_ob (g + 2) 20 && (am_ln (g + 2) == 8)) = true ∧ (am_ob (g + 3) 20 && (am_ln (g + 3) == 6)) = true ∧ (am_ob (g + 4) 20 && (am_ln (g + 4) == 6)) = true ∧ (am_ob (g + 5) 20 && (am_ln (g + 5) == 8)) = true := by
    rcases hg with rfl | rfl <;> exact ⟨⟨rfl, by decide⟩, rfl, rfl, rfl, rfl, rfl⟩
  obtain ⟨⟨o, g0⟩, b1, b2, b3, b4, b5⟩ := b
  clear hg
  rw [aq_5, ax_gtb (decide_eq_true g0), hM, b1, ax_gt, ax_let, o, ax_gt, ax_let]
  obtain ⟨n1, s1, f1, z1⟩ := i_st (M := M) (h := g) (k := 0) (v := g + 1) hM (by omega)
  generalize am_wr (am_al M) g 0 (g + 1) = M1 at *
  have n1 : (M1.1 : Int) = g + 2 := by omega
  rw [n1, b2, ax_gt, ax_let, ax_let]
  obtain ⟨n2, s2, f2, z2⟩ := i_st (M := M1) (h := g) (k := 1) (v := g + 2) n1 (by omega)
  generalize am_wr (am_al M1) g 1 (g + 2) = M2 at *
  have n2 : (M2.1 : Int) = g + 3 := by omega
  rw [n2, b3, ax_gt, ax_let, ax_let]
  obtain ⟨n3, s3, f3, z3⟩ := i_st (M := M2) (h := g) (k := 2) (v := g + 3) n2 (by omega)
  generalize am_wr (am_al M2) g 2 (g + 3) = M3 at *
  have n3 : (M3.1 : Int) = g + 4 := by omega
  rw [n3, b4, ax_gt, ax_let, ax_let]
  obtain ⟨n4, s4, f4, z4⟩ := i_st (M := M3) (h := g) (k := 3) (v := g + 4) n3 (by omega)
  generalize am_wr (am_al M3) g 3 (g + 4) = M4 at *
  have n4 : (M4.1 : Int) = g + 5 := by omega
  rw [n4, b5, ax_gt, ax_let, ax_let]
  obtain ⟨n5, s5, f5, z5⟩ := i_st (M := M4) (h := g) (k := 4) (v := g + 5) n4 (by omega)
  generalize am_wr (am_al M4) g 4 (g + 5) = M5 at *
  rw [ax_let]
  refine ax_ok_some ⟨by rw [wr_1]; omega, fun i => ?_, fun c i c1 c2 => ?_, fun c i hc => ?_⟩
  · by_cases e : i = 12
    · rw [if_pos e, e, ax_ws]
    · rw [if_neg e, ax_wi e, f5, f4, f3, f2, f1, hz]
  · have hc : c = g + 1 ∨ c = g + 2 ∨ c = g + 3 ∨ c = g + 4 ∨ c = g + 5 := by omega
    rw [ax_wc (by omega)]
    rcases hc with rfl | rfl | rfl | rfl | rfl
    · rw [s5 _ _ (by omega) (by omega), s4 _ _ (by omega) (by omega), s3 _ _ (by omega) (by omega), s2 _ _ (by omega) (by omega), z1]
    · rw [s5 _ _ (by omega) (by omega), s4 _ _ (by omega) (by omega), s3 _ _ (by omega) (by omega), z2]
    · rw [s5 _ _ (by omega) (by omega), s4 _ _ (by omega) (by omega), z3]
    · rw [s5 _ _ (by omega) (by omega), z4]
    · rw [z5]
  · rw [ax_wc (by omega), s5 _ _ (by omega) (by omega), s4 _ _ (by omega) (by omega), s3 _ _ (by omega) (by omega), s2 _ _ (by omega) (by omega), s1 _ _ (by omega) (by omega)]
theorem i_49 (hg : g = 15 ∨ g = 21 ∨ g = 27 ∨ g = 33) (hM : (M.1 : Int) = g + 1) (hz : ∀ i, am_rd M g i = 0) : ax_ok (am_Call d 49 [(2, g)] M) (fun _ M' => (M'.1 : Int) = g + 6 ∧ (∀ i, am_rd M' g i = if i = 5 then g + 5 else if i = 4 then g + 4 else if i = 3 then g + 3 else if i = 2 then g + 2 else if i = 0 then g + 1 else 0) ∧ ∀ c i, (c < g ∨ g + 5 < c) → am_rd M' c i = am_rd M c i) := by
  have b : (am_ob g 8 = true ∧ 0 < g) ∧ (am_ob (g + 1) 20 && (am_ln (g + 1) == 300)) = true ∧ (am_ob (g + 2) 20 && (am_ln (g + 2) == 4)) = true ∧ (am_ob (g + 3) 20 && (am_ln (g + 3) == 4)) = true ∧ (am_ob (g + 4) 20 && (am_ln (g + 4) == 24)) = true ∧ (am_ob (g + 5) 20 && (am_ln (g + 5) == 72)) = true := by
    rcases hg with rfl | rfl | rfl | rfl <;> exact ⟨⟨rfl, by decide⟩, rfl, rfl, rfl, rfl, rfl⟩
  obtain ⟨⟨o, g0⟩, b1, b2, b3, b4, b5⟩ := b
  clear hg
  rw [aq_49, ax_gtb (decide_eq_true g0), hM, b1, ax_gt, ax_let, o, ax_gt, ax_let]
  obtain ⟨n1, s1, f1, z1⟩ := i_st (M := M) (h := g) (k := 0) (v := g + 1) hM (by omega)
  generalize am_wr (am_al M) g 0 (g + 1) = M1 at *
  have n1 : (M1.1 : Int) = g + 2 := by omega
  rw [n1, b2, ax_gt, ax_let, ax_let]
  obtain ⟨n2, s2, f2, z2⟩ := i_st (M := M1) (h := g) (k := 2) (v := g + 2) n1 (by omega)
  generalize am_wr (am_al M1) g 2 (g + 2) = M2 at *
  have n2 : (M2.1 : Int) = g + 3 := by omega
  rw [n2, b3, ax_gt, ax_let, ax_let]
  obtain ⟨n3, s3, f3, z3⟩ := i_st (M := M2) (h := g) (k := 3) (v := g + 3) n2 (by omega)
  generalize am_wr (am_al M2) g 3 (g + 3) = M3 at *
  have n3 : (M3.1 : Int) = g + 4 := by omega
  rw [n3, b4, ax_gt, ax_let, ax_let]
  obtain ⟨n4, s4, f4, z4⟩ := i_st (M := M3) (h := g) (k := 4) (v := g + 4) n3 (by omega)
  generalize am_wr (am_al M3) g 4 (g + 4) = M4 at *
  have n4 : (M4.1 : Int) = g + 5 := by omega
  rw [n4, b5, ax_gt, ax_let, ax_let]
  obtain ⟨n5, s5, f5, z5⟩ := i_st (M := M4) (h := g) (k := 5) (v := g + 5) n4 (by omega)
  generalize am_wr (am_al M4) g 5 (g + 5) = M5 at *
  refine ax_ok_some ⟨by omega, fun i => ?_, fun c i hc => ?_⟩
  · rw [f5, f4, f3, f2, f1, hz]
  · rw [s5 _ _ (by omega) (by omega), s4 _ _ (by omega) (by omega), s3 _ _ (by omega) (by omega), s2 _ _ (by omega) (by omega), s1 _ _ (by omega) (by omega)]
theorem i_29 (hM : (M.1 : Int) = 40) (hz : ∀ i, am_rd M 39 i = 0) : ax_ok (am_Call d 29 [(2, 39), (2, 2), (2, 14)] M) (fun _ M' => (M'.1 : Int) = 42 ∧ (∀ i, am_rd M' 39 i = if i = 1 then 14 else if i = 0 then 2 else if i = 3 then 41 else if i = 2 then 40 else 0) ∧ ∀ c i, (c < 39 ∨ 41 < c) → am_rd M' c i = am_rd M c i) := by
  rw [aq_29, ax_gtb (by rfl), hM, ax_gtb (by rfl), ax_let, ax_gtb (by rfl), ax_let]
  obtain ⟨n1, s1, f1, z1⟩ := i_st (M := M) (h := 39) (k := 2) (v := 40) hM (by omega)
  generalize am_wr (am_al M) 39 2 40 = M1 at *
  have n1 : (M1.1 : Int) = 41 := by omega
  rw [n1, ax_gtb (by rfl), ax_let, ax_let]
  obtain ⟨n2, s2, f2, z2⟩ := i_st (M := M1) (h := 39) (k := 3) (v := 41) n1 (by omega)
  generalize am_wr (am_al M1) 39 3 41 = M2 at *
  rw [ax_let]
  obtain ⟨n3, s3, f3⟩ := i_wr (M := M2) (h := 39) (k := 0) (v := 2)
  generalize am_wr M2 39 0 2 = M3 at *
  rw [ax_let]
  obtain ⟨n4, s4, f4⟩ := i_wr (M := M3) (h := 39) (k := 1) (v := 14)
  generalize am_wr M3 39 1 14 = M4 at *
  refine ax_ok_some ⟨by omega, fun i => ?_, fun c i hc => ?_⟩
  · rw [f4, f3, f2, f1, hz]
  · rw [s4 _ _ (by omega), s3 _ _ (by omega), s2 _ _ (by omega) (by omega), s1 _ _ (by omega) (by omega)]
theorem i_0 (hz : ∀ i, am_rd M 42 i = 0) : ax_ok (am_Call d 0 [(2, 42), (2, 2), (2, 39)] M) (fun _ M' => (M'.1 : Int) = M.1 ∧ (∀ i, am_rd M' 42 i = if i = 1 then 39 else if i = 0 then 2 else 0) ∧ ∀ c i, c ≠ 42 → am_rd M' c i = am_rd M c i) := by
  rw [aq_0, ax_gtb (by rfl), ax_gtb (by rfl), ax_let]
  obtain ⟨n3, s3, f3⟩ := i_wr (M := M) (h := 42) (k := 0) (v := 2)
  generalize am_wr M 42 0 2 = M3 at *
  rw [ax_let]
  obtain ⟨n4, s4, f4⟩ := i_wr (M := M3) (h := 42) (k := 1) (v := 39)
  generalize am_wr M3 42 1 39 = M4 at *
  refine ax_ok_some ⟨by omega, fun i => ?_, fun c i hc => ?_⟩
  · rw [f4, f3, hz]
  · rw [s4 _ _ hc, s3 _ _ hc]
theorem i_38 (hM : (M.1 : Int) = 421) (hz : ∀ i, am_rd M 420 i = 0) : ax_ok (am_Call d 38 [(2, 420)] M) (fun _ M' => (M'.1 : Int) = 424 ∧ (∀ i, am_rd M' 420 i = if i = 9 then -1 else if i = 2 then 423 else if i = 1 then 422 else if i = 0 then 421 else 0) ∧ ∀ c i, (c < 420 ∨ 423 < c) → am_rd M' c i = am_rd M c i) := by
  rw [aq_38, ax_gtb (by rfl), hM, ax_gtb (by rfl), ax_let, ax_gtb (by rfl), ax_let]
  obtain ⟨n1, s1, f1, z1⟩ := i_st (M := M) (h := 420) (k := 0) (v := 421) hM (by omega)
  generalize am_wr (am_al M) 420 0 421 = M1 at *
  have n1 : (M1.1 : Int) = 422 := by omega
  rw [n1, ax_gtb (by rfl), ax_let, ax_let]
  obtain ⟨n2, s2, f2, z2⟩ := i_st (M := M1) (h := 420) (k := 1) (v := 422) n1 (by omega)
  generalize am_wr (am_al M1) 420 1 422 = M2 at *
  have n2 : (M2.1 : Int) = 423 := by omega
  rw [n2, ax_gtb (by rfl), ax_let, ax_let]
  obtain ⟨n3, s3, f3, z3⟩ := i_st (M := M2) (h := 420) (k := 2) (v := 423) n2 (by omega)
  generalize am_wr (am_al M2) 420 2 423 = M3 at *
  rw [ax_let]
  obtain ⟨n4, s4, f4⟩ := i_wr (M := M3) (h := 420) (k := 9) (v := -1)
  generalize am_wr M3 420 9 (-1) = M4 at *
  refine ax_ok_some ⟨by omega, fun i => ?_, fun c i hc => ?_⟩
  · rw [f4, f3, f2, f1, hz]
  · rw [s4 _ _ (by omega), s3 _ _ (by omega) (by omega), s2 _ _ (by omega) (by omega), s1 _ _ (by omega) (by omega)]
theorem i_47 (hM : (M.1 : Int) = 443) (hz : ∀ i, am_rd M 442 i = 0) : ax_ok (am_Call d 47 [(2, 442), (2, 2), (2, 8), (2, 39)] M) (fun _ M' => (M'.1 : Int) = 444 ∧ (∀ i, am_rd M' 442 i = if i = 2 then 39 else if i = 1 then 8 else if i = 0 then 2 else if i = 3 then 443 else 0) ∧ ∀ c i, (c < 442 ∨ 443 < c) → am_rd M' c i = am_rd M c i) := by
  rw [aq_47, ax_gtb (by rfl), hM, ax_gtb (by rfl), ax_let, ax_gtb (by rfl), ax_let]
  obtain ⟨n1, s1, f1, z1⟩ := i_st (M := M) (h := 442) (k := 3) (v := 443) hM (by omega)
  generalize am_wr (am_al M) 442 3 443 = M1 at *
  rw [ax_let]
  obtain ⟨n2, s2, f2⟩ := i_wr (M := M1) (h := 442) (k := 0) (v := 2)
  generalize am_wr M1 442 0 2 = M2 at *
  rw [ax_let]
  obtain ⟨n3, s3, f3⟩ := i_wr (M := M2) (h := 442) (k := 1) (v := 8)
  generalize am_wr M2 442 1 8 = M3 at *
  rw [ax_let]
  obtain ⟨n4, s4, f4⟩ := i_wr (M := M3) (h := 442) (k := 2) (v := 39)
  generalize am_wr M3 442 2 39 = M4 at *
  refine ax_ok_some ⟨by omega, fun i => ?_, fun c i hc => ?_⟩
  · rw [f4, f3, f2, f1, hz]
  · rw [s4 _ _ (by omega), s3 _ _ (by omega), s2 _ _ (by omega), s1 _ _ (by omega) (by omega)]
theorem i_34 (hM : (M.1 : Int) = 445) (hz : ∀ i, am_rd M 444 i = 0) : ax_ok (am_Call d 34 [(2, 444), (2, 2), (2, 8)] M) (fun _ M' => (M'.1 : Int) = 447 ∧ (∀ i, am_rd M' 444 i = if i = 1 then 8 else if i = 0 then 2 else if i = 3 then 446 else if i = 2 then 445 else 0) ∧ ∀ c i, (c < 444 ∨ 446 < c) → am_rd M' c i = am_rd M c i) := by
  rw [aq_34, ax_gtb (by rfl), hM, ax_gtb (by rfl), ax_let, ax_gtb (by rfl), ax_let]
  obtain ⟨n1, s1, f1, z1⟩ := i_st (M := M) (h := 444) (k := 2) (v := 445) hM (by omega)
  generalize am_wr (am_al M) 444 2 445 = M1 at *
  have n1 : (M1.1 : Int) = 446 := by omega
  rw [n1, ax_gtb (by rfl), ax_let, ax_let]
  obtain ⟨n2, s2, f2, z2⟩ := i_st (M := M1) (h := 444) (k := 3) (v := 446) n1 (by omega)
  generalize am_wr (am_al M1) 444 3 446 = M2 at *
  rw [ax_let]
  obtain ⟨n3, s3, f3⟩ := i_wr (M := M2) (h := 444) (k := 0) (v := 2)
  generalize am_wr M2 444 0 2 = M3 at *
  rw [ax_let]
  obtain ⟨n4, s4, f4⟩ := i_wr (M := M3) (h := 444) (k := 1) (v := 8)
  generalize am_wr M3 444 1 8 = M4 at *
  refine ax_ok_some ⟨by omega, fun i => ?_, fun c i hc => ?_⟩
  · rw [f4, f3, f2, f1, hz]
  · rw [s4 _ _ (by omega), s3 _ _ (by omega), s2 _ _ (by omega) (by omega), s1 _ _ (by omega) (by omega)]
end
