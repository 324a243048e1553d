/-! the constructors: the class -/
/-- what holds behind the class's constructor -/
def CI (M : am_M) : Prop := (M.1 : Int) = 447 ∧ (∀ i, am_rd M 1 i = if i = 14 then 444 else if i = 13 then 442 else if i = 12 then 424 else if i = 11 then 42 else if i = 10 then 39 else if i = 9 then 420 else if i = 7 then 419 else if i = 6 then 14 else if i = 5 then 237 else if i = 4 then 55 else if i = 3 then 49 else if i = 2 then 8 else if i = 1 then 43 else if i = 0 then 2 else 0) ∧ (∀ g, g = 2 ∨ g = 43 → (∀ i, am_rd M g i = if i = 12 then -1 else if i = 4 then g + 5 else if i = 3 then g + 4 else if i = 2 then g + 3 else if i = 1 then g + 2 else if i = 0 then g + 1 else 0) ∧ ∀ c i, g + 1 ≤ c → c ≤ g + 5 → am_rd M c i = 0) ∧ (HZ M 8 ∧ HZ M 49 ∧ HZ M 425) ∧ (∀ s, s = 55 ∨ s = 237 → (∀ q, 0 ≤ q → q < 30 → HZ M (s + 2 + 6 * q)) ∧ (∀ i, 0 ≤ i → i < 30 → am_rd M (s + 1) i = s + 2 + 6 * i) ∧ ∀ i, am_rd M s i = if i = 0 then s + 1 else 0) ∧ ((∀ q, 0 ≤ q → q < 4 → ∀ i, am_rd M (15 + 6 * q) i = if i = 5 then 15 + 6 * q + 5 else if i = 4 then 15 + 6 * q + 4 else if i = 3 then 15 + 6 * q + 3 else if i = 2 then 15 + 6 * q + 2 else if i = 0 then 15 + 6 * q + 1 else 0) ∧ ∀ i, 0 ≤ i → i < 4 → am_rd M 14 i = 15 + 6 * i) ∧ (∀ i, am_rd M 39 i = if i = 1 then 14 else if i = 0 then 2 else if i = 3 then 41 else if i = 2 then 40 else 0) ∧ (∀ i, am_rd M 42 i = if i = 1 then 39 else if i = 0 then 2 else 0) ∧ (∀ i, am_rd M 420 i = if i = 9 then -1 else if i = 2 then 423 else if i = 1 then 422 else if i = 0 then 421 else 0) ∧ ((∀ i, 0 ≤ i → i < 8 → am_rd M 431 i = 432 + i) ∧ ∀ i, am_rd M 424 i = if i = 3 then 42 else if i = 2 then 39 else if i = 1 then 8 else if i = 0 then 2 else if i = 7 then 441 else if i = 6 then 440 else if i = 5 then 431 else if i = 4 then 425 else 0) ∧ (∀ i, am_rd M 442 i = if i = 2 then 39 else if i = 1 then 8 else if i = 0 then 2 else if i = 3 then 443 else 0) ∧ ∀ i, am_rd M 444 i = if i = 1 then 8 else if i = 0 then 2 else if i = 3 then 446 else if i = 2 then 445 else 0
section
variable {d : Nat}
theorem i_181 {M : am_M} (hM : (M.1 : Int) = 2) (hz : ∀ i, am_rd M 1 i = 0) : ax_ok (am_Call d 181 [(2, 1)] M) (fun _ M' => CI M' ∧ ∀ c i, c < 1 → am_rd M' c i = am_rd M c i) := by
  have nM := hM
  rw [aq_181, ax_gtb (by rfl)]
  have hA1 : ((am_al M).1 : Int) = 3 := by rw [al_1]; omega
  have zzA1 : ∀ i, am_rd (am_al M) 2 i = 0 := fun i => by rw [al_at nM, if_pos rfl]
  obtain ⟨rA1, A1, eA1, nA1, pA1, qA1, fA1⟩ := i_5 (d := d) (g := 2) (Or.inl rfl) hA1 zzA1
  have nA1 : (A1.1 : Int) = 8 := by omega
  have gA1 : ∀ c i, (c < 2 ∨ 7 < c) → am_rd A1 c i = am_rd M c i := fun c i hc => by rw [fA1 c i (by omega), al_at nM, if_neg (by omega)]
  rw [nM, ax_gtb (by rfl), ax_let, ax_gtb (by rfl), eA1, Option.bind_some]
  dsimp only []
  rw [ax_let]
  have hA2 : ((am_al A1).1 : Int) = 9 := by rw [al_1]; omega
  have zzA2 : ∀ i, am_rd (am_al A1) 8 i = 0 := fun i => by rw [al_at nA1, if_pos rfl]
  obtain ⟨rA2, A2, eA2, nA2, pA2, fA2⟩ := i_21 (d := d) HH_8 hA2 zzA2
  have nA2 : (A2.1 : Int) = 14 := by omega
  have gA2 : ∀ c i, (c < 8 ∨ 13 < c) → am_rd A2 c i = am_rd A1 c i := fun c i hc => by rw [fA2 c i (by omega), al_at nA1, if_neg (by omega)]
  rw [nA1, ax_gtb (by rfl), ax_let, ax_gtb (by rfl), eA2, Option.bind_some]
  dsimp only []
  rw [ax_let]
  rw [nA2, ax_gtb (by rfl), ax_let, ax_let]
  have nB : ((am_al A2).1 : Int) = 15 + 6 * 0 := by rw [al_1]; omega
  have gB : ∀ c i, c ≠ 14 → am_rd (am_al A2) c i = am_rd A2 c i := fun c i hc => by rw [al_at nA2, if_neg hc]
  generalize am_al A2 = B at *
  obtain ⟨C, eC, nC, pC, qC, -, gC⟩ := i_181l (d := d) 4 0 B (by omega) (by omega) nB
  have eC : am_Ex d 181 16 [(2, 1), (2, 2), (2, 8), (2, 14), (0, 0), am_N] [] B = _ := eC
  rw [eC, aq_181_16, show am_ia 14 = true from rfl, ax_gt, show am_ln 14 = 4 from rfl, if_neg (by omega)]
  have hA4 : ((am_al C).1 : Int) = 40 := by rw [al_1]; omega
  have zzA4 : ∀ i, am_rd (am_al C) 39 i = 0 := fun i => by rw [al_at nC, if_pos rfl]
  obtain ⟨rA4, A4, eA4, nA4, pA4, fA4⟩ := i_29 (d := d) hA4 zzA4
  have nA4 : (A4.1 : Int) = 42 := by omega
  have gA4 : ∀ c i, (c < 39 ∨ 41 < c) → am_rd A4 c i = am_rd C c i := fun c i hc => by rw [fA4 c i (by omega), al_at nC, if_neg (by omega)]
  rw [nC, ax_gtb (by rfl), ax_let, ax_gtb (by rfl), eA4, Option.bind_some]
  dsimp only []
  rw [ax_let]
  have hA5 : ((am_al A4).1 : Int) = 43 := by rw [al_1]; omega
  have zzA5 : ∀ i, am_rd (am_al A4) 42 i = 0 := fun i => by rw [al_at nA4, if_pos rfl]
  obtain ⟨rA5, A5, eA5, nA5, pA5, fA5⟩ := i_0 (d := d) zzA5
  have nA5 : (A5.1 : Int) = 43 := by omega
  have gA5 : ∀ c i, c ≠ 42 → am_rd A5 c i = am_rd A4 c i := fun c i hc => by rw [fA5 c i hc, al_at nA4, if_neg hc]
  rw [nA4, ax_gtb (by rfl), ax_let, ax_gtb (by rfl), eA5, Option.bind_some]
  dsimp only []
  rw [ax_let, show am_ob 1 10 = true from rfl, ax_gt]
  rw [ax_let]
  obtain ⟨nA6, sA6, fA6⟩ := i_wr (M := A5) (h := 1) (k := 0) (v := 2)
  generalize am_wr A5 1 0 2 = A6 at *
  have nA6 : (A6.1 : Int) = 43 := by omega
  have hA7 : ((am_al A6).1 : Int) = 44 := by rw [al_1]; omega
  have zzA7 : ∀ i, am_rd (am_al A6) 43 i = 0 := fun i => by rw [al_at nA6, if_pos rfl]
  obtain ⟨rA7, A7, eA7, nA7, pA7, qA7, fA7⟩ := i_5 (d := d) (g := 43) (Or.inr rfl) hA7 zzA7
  have nA7 : (A7.1 : Int) = 49 := by omega
  have gA7 : ∀ c i, (c < 43 ∨ 48 < c) → am_rd A7 c i = am_rd A6 c i := fun c i hc => by rw [fA7 c i (by omega), al_at nA6, if_neg (by omega)]
  rw [nA6, ax_gtb (by rfl), ax_let, ax_gtb (by rfl), eA7, Option.bind_some]
  dsimp only []
  rw [ax_let]
  obtain ⟨nA8, sA8, fA8⟩ := i_wr (M := A7) (h := 1) (k := 1) (v := 43)
  generalize am_wr A7 1 1 43 = A8 at *
  have nA8 : (A8.1 : Int) = 49 := by omega
  rw [ax_let]
  obtain ⟨nA9, sA9, fA9⟩ := i_wr (M := A8) (h := 1) (k := 2) (v := 8)
  generalize am_wr A8 1 2 8 = A9 at *
  have nA9 : (A9.1 : Int) = 49 := by omega
  have hA10 : ((am_al A9).1 : Int) = 50 := by rw [al_1]; omega
  have zzA10 : ∀ i, am_rd (am_al A9) 49 i = 0 := fun i => by rw [al_at nA9, if_pos rfl]
  obtain ⟨rA10, A10, eA10, nA10, pA10, fA10⟩ := i_21 (d := d) HH_49 hA10 zzA10
  have nA10 : (A10.1 : Int) = 55 := by omega
  have gA10 : ∀ c i, (c < 49 ∨ 54 < c) → am_rd A10 c i = am_rd A9 c i := fun c i hc => by rw [fA10 c i (by omega), al_at nA9, if_neg (by omega)]
  rw [nA9, ax_gtb (by rfl), ax_let, ax_gtb (by rfl), eA10, Option.bind_some]
  dsimp only []
  rw [ax_let]
  obtain ⟨nA11, sA11, fA11⟩ := i_wr (M := A10) (h := 1) (k := 3) (v := 49)
  generalize am_wr A10 1 3 49 = A11 at *
  have nA11 : (A11.1 : Int) = 55 := by omega
  have hA12 : ((am_al A11).1 : Int) = 56 := by rw [al_1]; omega
  have zzA12 : ∀ i, am_rd (am_al A11) 55 i = 0 := fun i => by rw [al_at nA11, if_pos rfl]
  obtain ⟨rA12, A12, eA12, nA12, pA12, qA12, uA12, fA12⟩ := i_132 (d := d) (s := 55) rfl rfl rfl (by omega) (fun k k0 k1 => HH_55 k0 k1) hA12 zzA12
  have nA12 : (A12.1 : Int) = 237 := by omega
  have gA12 : ∀ c i, (c < 55 ∨ 236 < c) → am_rd A12 c i = am_rd A11 c i := fun c i hc => by rw [fA12 c i (by omega), al_at nA11, if_neg (by omega)]
  rw [nA11, ax_gtb (by rfl), ax_let, ax_gtb (by rfl), eA12, Option.bind_some]
  dsimp only []
  rw [ax_let]
  obtain ⟨nA13, sA13, fA13⟩ := i_wr (M := A12) (h := 1) (k := 4) (v := 55)
  generalize am_wr A12 1 4 55 = A13 at *
  have nA13 : (A13.1 : Int) = 237 := by omega
  have hA14 : ((am_al A13).1 : Int) = 238 := by rw [al_1]; omega
  have zzA14 : ∀ i, am_rd (am_al A13) 237 i = 0 := fun i => by rw [al_at nA13, if_pos rfl]
  obtain ⟨rA14, A14, eA14, nA14, pA14, qA14, uA14, fA14⟩ := i_132 (d := d) (s := 237) rfl rfl rfl (by omega) (fun k k0 k1 => HH_237 k0 k1) hA14 zzA14
  have nA14 : (A14.1 : Int) = 419 := by omega
  have gA14 : ∀ c i, (c < 237 ∨ 418 < c) → am_rd A14 c i = am_rd A13 c i := fun c i hc => by rw [fA14 c i (by omega), al_at nA13, if_neg (by omega)]
  rw [nA13, ax_gtb (by rfl), ax_let, ax_gtb (by rfl), eA14, Option.bind_some]
  dsimp only []
  rw [ax_let]
  obtain ⟨nA15, sA15, fA15⟩ := i_wr (M := A14) (h := 1) (k := 5) (v := 237)
  generalize am_wr A14 1 5 237 = A15 at *
  have nA15 : (A15.1 : Int) = 419 := by omega
  rw [ax_let]
  obtain ⟨nA16, sA16, fA16⟩ := i_wr (M := A15) (h := 1) (k := 6) (v := 14)
  generalize am_wr A15 1 6 14 = A16 at *
  have nA16 : (A16.1 : Int) = 419 := by omega
  rw [nA16, ax_gtb (by rfl), ax_let, ax_let]
  obtain ⟨nA17, sA17, fA17, -⟩ := i_st (M := A16) (h := 1) (k := 7) (v := 419) nA16 (by omega)
  generalize am_wr (am_al A16) 1 7 419 = A17 at *
  have nA17 : (A17.1 : Int) = 420 := by omega
  have hA18 : ((am_al A17).1 : Int) = 421 := by rw [al_1]; omega
  have zzA18 : ∀ i, am_rd (am_al A17) 420 i = 0 := fun i => by rw [al_at nA17, if_pos rfl]
  obtain ⟨rA18, A18, eA18, nA18, pA18, fA18⟩ := i_38 (d := d) hA18 zzA18
  have nA18 : (A18.1 : Int) = 424 := by omega
  have gA18 : ∀ c i, (c < 420 ∨ 423 < c) → am_rd A18 c i = am_rd A17 c i := fun c i hc => by rw [fA18 c i (by omega), al_at nA17, if_neg (by omega)]
  rw [nA17, ax_gtb (by rfl), ax_let, ax_gtb (by rfl), eA18, Option.bind_some]
  dsimp only []
  rw [ax_let]
  obtain ⟨nA19, sA19, fA19⟩ := i_wr (M := A18) (h := 1) (k := 9) (v := 420)
  generalize am_wr A18 1 9 420 = A19 at *
  have nA19 : (A19.1 : Int) = 424 := by omega
  rw [ax_let]
  obtain ⟨nA20, sA20, fA20⟩ := i_wr (M := A19) (h := 1) (k := 10) (v := 39)
  generalize am_wr A19 1 10 39 = A20 at *
  have nA20 : (A20.1 : Int) = 424 := by omega
  rw [ax_let]
  obtain ⟨nA21, sA21, fA21⟩ := i_wr (M := A20) (h := 1) (k := 11) (v := 42)
  generalize am_wr A20 1 11 42 = A21 at *
  have nA21 : (A21.1 : Int) = 424 := by omega
  have hA22 : ((am_al A21).1 : Int) = 425 := by rw [al_1]; omega
  have zzA22 : ∀ i, am_rd (am_al A21) 424 i = 0 := fun i => by rw [al_at nA21, if_pos rfl]
  obtain ⟨rA22, A22, eA22, nA22, pA22, qA22, uA22, fA22⟩ := i_105 (d := d) hA22 zzA22
  have nA22 : (A22.1 : Int) = 442 := by omega
  have gA22 : ∀ c i, (c < 424 ∨ 441 < c) → am_rd A22 c i = am_rd A21 c i := fun c i hc => by rw [fA22 c i (by omega), al_at nA21, if_neg (by omega)]
  rw [nA21, ax_gtb (by rfl), ax_let, ax_gtb (by rfl), eA22, Option.bind_some]
  dsimp only []
  rw [ax_let]
  obtain ⟨nA23, sA23, fA23⟩ := i_wr (M := A22) (h := 1) (k := 12) (v := 424)
  generalize am_wr A22 1 12 424 = A23 at *
  have nA23 : (A23.1 : Int) = 442 := by omega
  have hA24 : ((am_al A23).1 : Int) = 443 := by rw [al_1]; omega
  have zzA24 : ∀ i, am_rd (am_al A23) 442 i = 0 := fun i => by rw [al_at nA23, if_pos rfl]
  obtain ⟨rA24, A24, eA24, nA24, pA24, fA24⟩ := i_47 (d := d) hA24 zzA24
  have nA24 : (A24.1 : Int) = 444 := by omega
  have gA24 : ∀ c i, (c < 442 ∨ 443 < c) → am_rd A24 c i = am_rd A23 c i := fun c i hc => by rw [fA24 c i (by omega), al_at nA23, if_neg (by omega)]
  rw [nA23, ax_gtb (by rfl), ax_let, ax_gtb (by rfl), eA24, Option.bind_some]
  dsimp only []
  rw [ax_let]
  obtain ⟨nA25, sA25, fA25⟩ := i_wr (M := A24) (h := 1) (k := 13) (v := 442)
  generalize am_wr A24 1 13 442 = A25 at *
  have nA25 : (A25.1 : Int) = 444 := by omega
  have hA26 : ((am_al A25).1 : Int) = 445 := by rw [al_1]; omega
  have zzA26 : ∀ i, am_rd (am_al A25) 444 i = 0 := fun i => by rw [al_at nA25, if_pos rfl]
  obtain ⟨rA26, A26, eA26, nA26, pA26, fA26⟩ := i_34 (d := d) hA26 zzA26
  have nA26 : (A26.1 : Int) = 447 := by omega
  have gA26 : ∀ c i, (c < 444 ∨ 446 < c) → am_rd A26 c i = am_rd A25 c i := fun c i hc => by rw [fA26 c i (by omega), al_at nA25, if_neg (by omega)]
  rw [nA25, ax_gtb (by rfl), ax_let, ax_gtb (by rfl), eA26, Option.bind_some]
  dsimp only []
  rw [ax_let]
  obtain ⟨nA27, sA27, fA27⟩ := i_wr (M := A26) (h := 1) (k := 14) (v := 444)
  generalize am_wr A26 1 14 444 = A27 at *
  have nA27 : (A27.1 : Int) = 447 := by omega
  refine ax_ok_some ⟨⟨nA27, fun i => ?_, fun g hg => ?_, ⟨?_, ?_, ?_⟩, fun s hs => ?_, ⟨fun q q0 q1 i => ?_, fun i i0 i1 => ?_⟩, fun i => ?_, fun i => ?_, fun i => ?_, ⟨fun i i0 i1 => ?_, fun i => ?_⟩, fun i => ?_, fun i => ?_⟩, fun c i hc => ?_⟩
  · rw [fA27 i, gA26 1 i (by omega), fA25 i, gA24 1 i (by omega), fA23 i, gA22 1 i (by omega), fA21 i, fA20 i, fA19 i, gA18 1 i (by omega), fA17 i, fA16 i, fA15 i, gA14 1 i (by omega), fA13 i, gA12 1 i (by omega), fA11 i, gA10 1 i (by omega), fA9 i, fA8 i, gA7 1 i (by omega), fA6 i, gA5 1 i (by omega), gA4 1 i (by omega), gC 1 i (by omega) (by omega), gB 1 i (by omega), gA2 1 i (by omega), gA1 1 i (by omega), hz]
  · rcases hg with rfl | rfl
    · exact ⟨fun i => by simp (disch := omega) only [gA1, gA2, gB, gC, gA4, gA5, sA6, gA7, sA8, sA9, gA10, sA11, gA12, sA13, gA14, sA15, sA16, sA17, gA18, sA19, sA20, sA21, gA22, sA23, gA24, sA25, gA26, sA27]; exact pA1 i, fun c i c1 c2 => by simp (disch := omega) only [gA1, gA2, gB, gC, gA4, gA5, sA6, gA7, sA8, sA9, gA10, sA11, gA12, sA13, gA14, sA15, sA16, sA17, gA18, sA19, sA20, sA21, gA22, sA23, gA24, sA25, gA26, sA27]; exact qA1 c i c1 c2⟩
    · exact ⟨fun i => by simp (disch := omega) only [gA1, gA2, gB, gC, gA4, gA5, sA6, gA7, sA8, sA9, gA10, sA11, gA12, sA13, gA14, sA15, sA16, sA17, gA18, sA19, sA20, sA21, gA22, sA23, gA24, sA25, gA26, sA27]; exact pA7 i, fun c i c1 c2 => by simp (disch := omega) only [gA1, gA2, gB, gC, gA4, gA5, sA6, gA7, sA8, sA9, gA10, sA11, gA12, sA13, gA14, sA15, sA16, sA17, gA18, sA19, sA20, sA21, gA22, sA23, gA24, sA25, gA26, sA27]; exact qA7 c i c1 c2⟩
  · exact HZ_same pA2 fun c i c1 c2 => by simp (disch := omega) only [gA1, gA2, gB, gC, gA4, gA5, sA6, gA7, sA8, sA9, gA10, sA11, gA12, sA13, gA14, sA15, sA16, sA17, gA18, sA19, sA20, sA21, gA22, sA23, gA24, sA25, gA26, sA27]
  · exact HZ_same pA10 fun c i c1 c2 => by simp (disch := omega) only [gA1, gA2, gB, gC, gA4, gA5, sA6, gA7, sA8, sA9, gA10, sA11, gA12, sA13, gA14, sA15, sA16, sA17, gA18, sA19, sA20, sA21, gA22, sA23, gA24, sA25, gA26, sA27]
  · exact HZ_same pA22 fun c i c1 c2 => by simp (disch := omega) only [gA1, gA2, gB, gC, gA4, gA5, sA6, gA7, sA8, sA9, gA10, sA11, gA12, sA13, gA14, sA15, sA16, sA17, gA18, sA19, sA20, sA21, gA22, sA23, gA24, sA25, gA26, sA27]
  · rcases hs with rfl | rfl
    · exact ⟨fun q q0 q1 => HZ_same (pA12 q q0 q1) fun c i c1 c2 => by simp (disch := omega) only [gA1, gA2, gB, gC, gA4, gA5, sA6, gA7, sA8, sA9, gA10, sA11, gA12, sA13, gA14, sA15, sA16, sA17, gA18, sA19, sA20, sA21, gA22, sA23, gA24, sA25, gA26, sA27], fun i i0 i1 => by simp (disch := omega) only [gA1, gA2, gB, gC, gA4, gA5, sA6, gA7, sA8, sA9, gA10, sA11, gA12, sA13, gA14, sA15, sA16, sA17, gA18, sA19, sA20, sA21, gA22, sA23, gA24, sA25, gA26, sA27]; exact (qA12 i).trans (if_pos ⟨i0, i1⟩), fun i => by simp (disch := omega) only [gA1, gA2, gB, gC, gA4, gA5, sA6, gA7, sA8, sA9, gA10, sA11, gA12, sA13, gA14, sA15, sA16, sA17, gA18, sA19, sA20, sA21, gA22, sA23, gA24, sA25, gA26, sA27]; exact uA12 i⟩
    · exact ⟨fun q q0 q1 => HZ_same (pA14 q q0 q1) fun c i c1 c2 => by simp (disch := omega) only [gA1, gA2, gB, gC, gA4, gA5, sA6, gA7, sA8, sA9, gA10, sA11, gA12, sA13, gA14, sA15, sA16, sA17, gA18, sA19, sA20, sA21, gA22, sA23, gA24, sA25, gA26, sA27], fun i i0 i1 => by simp (disch := omega) only [gA1, gA2, gB, gC, gA4, gA5, sA6, gA7, sA8, sA9, gA10, sA11, gA12, sA13, gA14, sA15, sA16, sA17, gA18, sA19, sA20, sA21, gA22, sA23, gA24, sA25, gA26, sA27]; exact (qA14 i).trans (if_pos ⟨i0, i1⟩), fun i => by simp (disch := omega) only [gA1, gA2, gB, gC, gA4, gA5, sA6, gA7, sA8, sA9, gA10, sA11, gA12, sA13, gA14, sA15, sA16, sA17, gA18, sA19, sA20, sA21, gA22, sA23, gA24, sA25, gA26, sA27]; exact uA14 i⟩
  · simp (disch := omega) only [gA4, gA5, sA6, gA7, sA8, sA9, gA10, sA11, gA12, sA13, gA14, sA15, sA16, sA17, gA18, sA19, sA20, sA21, gA22, sA23, gA24, sA25, gA26, sA27]; exact pC q q0 q1 i
  · simp (disch := omega) only [gA4, gA5, sA6, gA7, sA8, sA9, gA10, sA11, gA12, sA13, gA14, sA15, sA16, sA17, gA18, sA19, sA20, sA21, gA22, sA23, gA24, sA25, gA26, sA27]; exact qC i i0 i1
  · simp (disch := omega) only [gA1, gA2, gB, gC, gA4, gA5, sA6, gA7, sA8, sA9, gA10, sA11, gA12, sA13, gA14, sA15, sA16, sA17, gA18, sA19, sA20, sA21, gA22, sA23, gA24, sA25, gA26, sA27]; exact pA4 i
  · simp (disch := omega) only [gA1, gA2, gB, gC, gA4, gA5, sA6, gA7, sA8, sA9, gA10, sA11, gA12, sA13, gA14, sA15, sA16, sA17, gA18, sA19, sA20, sA21, gA22, sA23, gA24, sA25, gA26, sA27]; exact pA5 i
  · simp (disch := omega) only [gA1, gA2, gB, gC, gA4, gA5, sA6, gA7, sA8, sA9, gA10, sA11, gA12, sA13, gA14, sA15, sA16, sA17, gA18, sA19, sA20, sA21, gA22, sA23, gA24, sA25, gA26, sA27]; exact pA18 i
  · simp (disch := omega) only [gA1, gA2, gB, gC, gA4, gA5, sA6, gA7, sA8, sA9, gA10, sA11, gA12, sA13, gA14, sA15, sA16, sA17, gA18, sA19, sA20, sA21, gA22, sA23, gA24, sA25, gA26, sA27]; exact qA22 i i0 i1
  · simp (disch := omega) only [gA1, gA2, gB, gC, gA4, gA5, sA6, gA7, sA8, sA9, gA10, sA11, gA12, sA13, gA14, sA15, sA16, sA17, gA18, sA19, sA20, sA21, gA22, sA23, gA24, sA25, gA26, sA27]; exact uA22 i
  · simp (disch := omega) only [gA1, gA2, gB, gC, gA4, gA5, sA6, gA7, sA8, sA9, gA10, sA11, gA12, sA13, gA14, sA15, sA16, sA17, gA18, sA19, sA20, sA21, gA22, sA23, gA24, sA25, gA26, sA27]; exact pA24 i
  · simp (disch := omega) only [gA1, gA2, gB, gC, gA4, gA5, sA6, gA7, sA8, sA9, gA10, sA11, gA12, sA13, gA14, sA15, sA16, sA17, gA18, sA19, sA20, sA21, gA22, sA23, gA24, sA25, gA26, sA27]; exact pA26 i
  · simp (disch := omega) only [gA1, gA2, gB, gC, gA4, gA5, sA6, gA7, sA8, sA9, gA10, sA11, gA12, sA13, gA14, sA15, sA16, sA17, gA18, sA19, sA20, sA21, gA22, sA23, gA24, sA25, gA26, sA27]
end
