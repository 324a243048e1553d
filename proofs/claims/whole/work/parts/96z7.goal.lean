/-! RR at the start, and the goal -/
section
variable {M : am_M} {d : Nat} {g h s c : Int}
theorem CI_same {M' : am_M} (a : CI M) (e : ∀ c i, c < 447 → am_rd M' c i = am_rd M c i) : CJ M' := by
  obtain ⟨n1, f1, fg, ⟨z8, z49, z425⟩, fs, ⟨f15, f14⟩, f39, f42, f420, ⟨f431, f424⟩, f442, f444⟩ := a
  have E : ∀ c i, c < 447 → am_rd ((447, M'.2) : am_M) c i = am_rd M c i := e
  refine ⟨rfl, fun i => (E 1 i (by omega)).trans (f1 i), fun g hg => ⟨fun i => (E g i (by omega)).trans ((fg g hg).1 i), fun c i c1 c2 => (E c i (by omega)).trans ((fg g hg).2 c i c1 c2)⟩, ⟨HZ_same z8 fun c i _ _ => E c i (by omega), HZ_same z49 fun c i _ _ => E c i (by omega), HZ_same z425 fun c i _ _ => E c i (by omega)⟩, fun s hs => ⟨fun q q0 q1 => HZ_same ((fs s hs).1 q q0 q1) fun c i _ _ => E c i (by omega), fun i i0 i1 => (E (s + 1) i (by omega)).trans ((fs s hs).2.1 i i0 i1), fun i => (E s i (by omega)).trans ((fs s hs).2.2 i)⟩, ⟨fun q q0 q1 i => (E _ i (by omega)).trans (f15 q q0 q1 i), fun i i0 i1 => (E 14 i (by omega)).trans (f14 i i0 i1)⟩, fun i => (E 39 i (by omega)).trans (f39 i), fun i => (E 42 i (by omega)).trans (f42 i), fun i => (E 420 i (by omega)).trans (f420 i), ⟨fun i i0 i1 => (E 431 i (by omega)).trans (f431 i i0 i1), fun i => (E 424 i (by omega)).trans (f424 i)⟩, fun i => (E 442 i (by omega)).trans (f442 i), fun i => (E 444 i (by omega)).trans (f444 i)⟩
theorem z_and : ∀ j : Fin 8, am_and (am_shr 0 (j.val : Int)) 1 = 0 := by decide +kernel
theorem z_and' {j : Int} (j0 : 0 ≤ j) (j1 : j < 8) : am_and (am_shr 0 j) 1 = 0 := by
  have h := z_and ⟨j.toNat, by omega⟩
  simp only [Int.toNat_of_nonneg j0] at h
  exact h
theorem RP_init (hg : ∀ i, am_rd M g i = if i = 12 then -1 else if i = 4 then g + 5 else if i = 3 then g + 4 else if i = 2 then g + 3 else if i = 1 then g + 2 else if i = 0 then g + 1 else 0) (hg2 : ∀ c i, g + 1 ≤ c → c ≤ g + 5 → am_rd M c i = 0) (hz : HZ M h) (hs : ∀ i, am_rd M s i = if i = 0 then s + 1 else 0) (row : ∀ i, 0 ≤ i → i < 5160 → am_rd M c i = if i = 223 then 73 else if i = 4 then -1 else 0) : RP M M g h s c := by
  have r0 : ∀ i, 0 ≤ i → i < 5160 → i ≠ 223 → i ≠ 4 → am_rd M c i = 0 := fun i i0 i1 h1 h2 => by rw [row i i0 i1, if_neg h1, if_neg h2]
  have r4 : am_rd M c 4 = -1 := row 4 (by omega) (by omega)
  have r223 : am_rd M c 223 = 73 := row 223 (by omega) (by omega)
  have g0 : ∀ i, 5 ≤ i → i ≠ 12 → am_rd M g i = 0 := fun i h1 h2 => by rw [hg, if_neg h2, if_neg (by omega), if_neg (by omega), if_neg (by omega), if_neg (by omega), if_neg (by omega)]
  have g12 : am_rd M g 12 = -1 := hg 12
  obtain ⟨z1, z2, z3⟩ := hz
  have f0 : ∀ j, 0 ≤ j → j < 163 → fl M c 60 j = 0 := fun j j0 j1 => r0 (60 + j) (by omega) (by omega) (by omega) (by omega)
  have f163 : fl M c 60 163 = 73 := r223
  have h0 : ∀ i, 5 ≤ i → i ≠ 7 → am_rd M h i = 0 := fun i h1 h2 => by rw [z1, if_neg h2, if_neg (by omega)]
  have h7 : am_rd M h 7 = 73 := z1 7
  have hB : HB (am_rd M c 0) (fl M c 60) := by
    refine ⟨fun j j0 j1 => ?_, fun j j0 j1 => ?_, ?_, ?_, fun m t m0 m1 _ t0 t1 => f0 _ (by omega) (by omega)⟩
    · rw [f0 j j0 (by omega), f0 (96 + j) (by omega) (by omega), f0 (48 + j) (by omega) (by omega)]; omega
    · rw [f0 (144 + j) (by omega) (by omega), f0 (150 + j) (by omega) (by omega), f0 (156 + j) (by omega) (by omega)]; omega
    · rw [f0 162 (by omega) (by omega)]; omega
    · rw [f163]; omega
  refine ⟨⟨⟨?_, ?_, ?_, ?_, ?_, ?_, ?_⟩, fun j j0 j1 => ?_, fun j j0 j1 => ?_, fun j j0 j1 => ?_, fun j j0 j1 => ?_, fun j j0 j1 => ?_, fun j j0 j1 => ?_, ?_⟩, ?_, ⟨?_, hB, ?_⟩, ⟨?_, ?_, fun k k0 k1 => ?_⟩⟩
  · rw [g0 5 (by omega) (by omega), r0 0 (by omega) (by omega) (by omega) (by omega)]
  · rw [g0 6 (by omega) (by omega), r0 1 (by omega) (by omega) (by omega) (by omega)]
  · rw [g0 7 (by omega) (by omega), r0 2 (by omega) (by omega) (by omega) (by omega)]
  · rw [g0 11 (by omega) (by omega), r0 3 (by omega) (by omega) (by omega) (by omega)]
  · rw [g12, r4]
  · rw [g0 8 (by omega) (by omega), r0 6 (by omega) (by omega) (by omega) (by omega)]
  · rw [g0 10 (by omega) (by omega), r0 7 (by omega) (by omega) (by omega) (by omega)]
  · rw [hg2 _ _ (by omega) (by omega), r0 _ (by omega) (by omega) (by omega) (by omega)]
  · rw [hg2 _ _ (by omega) (by omega), r0 _ (by omega) (by omega) (by omega) (by omega)]
  · rw [hg2 _ _ (by omega) (by omega), r0 _ (by omega) (by omega) (by omega) (by omega)]
  · rw [hg2 _ _ (by omega) (by omega), r0 _ (by omega) (by omega) (by omega) (by omega)]
  · rw [hg2 _ _ (by omega) (by omega), r0 _ (by omega) (by omega) (by omega) (by omega)]
  · rw [g0 9 (by omega) (by omega), r0 _ (by omega) (by omega) (by omega) (by omega), z_and' j0 j1]
  · rw [g0 9 (by omega) (by omega)]; omega
  · unfold BG
    rw [r0 0 (by omega) (by omega) (by omega) (by omega), r0 1 (by omega) (by omega) (by omega) (by omega), r0 2 (by omega) (by omega) (by omega) (by omega), r0 3 (by omega) (by omega) (by omega) (by omega), r4, r0 5 (by omega) (by omega) (by omega) (by omega), r0 6 (by omega) (by omega) (by omega) (by omega), r0 7 (by omega) (by omega) (by omega) (by omega)]
    refine ⟨by omega, fun j j0 j1 => ?_, fun j j0 j1 => ?_, fun j _ j0 j1 => ?_, fun j j0 j1 => ?_, fun j j0 j1 => ?_, fun j j0 j1 => ?_⟩
    · rw [r0 _ (by omega) (by omega) (by omega) (by omega)]; omega
    · rw [r0 _ (by omega) (by omega) (by omega) (by omega)]; exact ⟨by omega, by decide⟩
    · exact r0 _ (by omega) (by omega) (by omega) (by omega)
    · rw [r0 _ (by omega) (by omega) (by omega) (by omega)]; omega
    · rw [r0 _ (by omega) (by omega) (by omega) (by omega)]; exact ⟨by omega, by decide⟩
    · rw [r0 _ (by omega) (by omega) (by omega) (by omega)]; omega
  · rw [r0 1 (by omega) (by omega) (by omega) (by omega)]
    refine ⟨fun j j0 j1 => ?_, fun j j0 j1 => ?_, fun j j0 j1 => ?_, fun j j0 j1 => ?_, fun j j0 j1 => ?_, ?_, fun j j0 j1 => ?_, ?_, ?_⟩
    · rw [z2 _ _ (by omega) (by omega), f0 _ (by omega) (by omega)]
    · rw [z2 _ _ (by omega) (by omega), f0 _ (by omega) (by omega)]
    · rw [z2 _ _ (by omega) (by omega), f0 _ (by omega) (by omega)]
    · rw [z2 _ _ (by omega) (by omega), f0 _ (by omega) (by omega)]
    · rw [z3, if_pos ⟨j0, j1⟩, if_neg (by omega)]
    · rw [h0 5 (by omega) (by omega)]; omega
    · rw [h0 5 (by omega) (by omega), f0 _ (by omega) (by omega), z_and' j0 (by omega)]
    · rw [h0 6 (by omega) (by omega), f0 _ (by omega) (by omega)]
    · rw [h7, f163]
  · rw [r0 222 (by omega) (by omega) (by omega) (by omega)]; omega
  · rw [hs, if_neg (by omega)]; omega
  · rw [hs, if_neg (by omega), r0 5 (by omega) (by omega) (by omega) (by omega)]
  · rw [r0 5 (by omega) (by omega) (by omega) (by omega)] at k1
    omega
theorem RR_init (hK : ax_K M) (a : CJ M) (am : ∀ i, am_rd M 447 i = miF i) (r8 : ∀ i, 0 ≤ i → i < 5160 → am_rd M 448 i = if i = 223 then 73 else if i = 4 then -1 else 0) (r9 : ∀ i, 0 ≤ i → i < 5160 → am_rd M 449 i = if i = 223 then 73 else if i = 4 then -1 else 0) : RR M := by
  obtain ⟨n1, f1, fg, ⟨z8, z49, z425⟩, fs, -, -, -, f420, -⟩ := a
  have g2 := fg 2 (Or.inl rfl)
  have g43 := fg 43 (Or.inr rfl)
  refine ⟨hK, RP_init g2.1 g2.2 z8 (fs 55 (Or.inl rfl)).2.2 r8, RP_init g43.1 g43.2 z49 (fs 237 (Or.inr rfl)).2.2 r9, ⟨?_, ?_, fun j j0 j1 => ?_, Or.inl ⟨f420 7, am 4, am 5⟩⟩, ?_, fun _ => [], fun t t0 t1 t2 => ?_⟩
  · exact (f1 8).trans (am 3).symm
  · rw [am 3]; exact ⟨by decide, by decide⟩
  · rw [am 3] at j1
    have : (miF 3) = 0 := rfl
    omega
  · rw [r9 3 (by omega) (by omega), r8 3 (by omega) (by omega)]
    decide
  · rw [r8 3 (by omega) (by omega)] at t2
    have : (if (3 : Int) = 223 then (73 : Int) else if (3 : Int) = 4 then -1 else 0) = 0 := rfl
    omega
end
theorem am_goal' : ∀ (L : Nat) (xs : Nat → Int32), L ≤ 3072 → ∃ μ' : am_M, am_Call 300 306 [(2, -1)] (am_mL L xs) = some (1, μ') ∧ μ'.1 = 484 := by
  intro L xs hL
  have hA : ((am_al (am_mL L xs)).1 : Int) = 2 := rfl
  have hz : ∀ i, am_rd (am_al (am_mL L xs)) 1 i = 0 := fun i => by rw [al_rd]; exact if_pos rfl
  obtain ⟨r1, M1, e1, c1, k1⟩ := i_181 (d := 300) hA hz
  have n1 := c1.1
  have hB : ((am_al M1).1 : Int) = 448 := by rw [al_1]; omega
  obtain ⟨M2, e2, n2, f2, z2, u2⟩ := i_142 (d := 300) hB (fun i => by rw [al_at n1, if_pos rfl])
  have v2 : ∀ c i, c < 447 → am_rd M2 c i = am_rd M1 c i := fun c i hc => by rw [u2 c i hc, al_at n1, if_neg (by omega)]
  have j2 : CJ M2 := CI_same c1 v2
  have K2 : ax_K M2 := K_of n2 j2 f2
  obtain ⟨r3, M3, e3, f3⟩ := m_67 (d := 300) K2 (o := 1) (Or.inr rfl)
  have K3 := ax_Kp e3 K2 rfl
  have v3 : ∀ c i, c ≠ 449 → am_rd M3 c i = am_rd M2 c i := fun c i hc => by rw [f3, if_neg (by omega)]
  have r8 : ∀ i, 0 ≤ i → i < 5160 → am_rd M3 448 i = if i = 223 then 73 else if i = 4 then -1 else 0 := fun i i0 i1 => by
    rw [v3 448 i (by omega), z2 448 i (by omega) (by omega)]
    (repeat' split) <;> first | rfl | (exfalso; omega)
  have r9 : ∀ i, 0 ≤ i → i < 5160 → am_rd M3 449 i = if i = 223 then 73 else if i = 4 then -1 else 0 := fun i i0 i1 => by
    rw [f3, if_pos (by omega), show (449 : Int) - 1 = 448 from rfl, ← v3 448 i (by omega)]
    exact r8 i i0 i1
  have R : RR M3 := RR_init K3 (CI_same c1 fun c i hc => (v3 c i (by omega)).trans (v2 c i hc)) (fun i => (v3 447 i (by omega)).trans (f2 i)) r8 r9
  have neg : ∀ c i, c < 0 → am_rd M3 c i = am_rd (am_mL L xs) c i := fun c i hc => by
    rw [v3 c i (by omega), v2 c i (by omega), k1 c i (by omega), al_rd]
    exact if_neg (by show ¬ c = ((1 : Nat) : Int); omega)
  have hL4 : am_rd M3 (-4) 0 = (L : Int) := neg _ _ (by decide)
  have hX : ∀ j, am_rd M3 (-1) j = (xs j.toNat).toInt := fun j => neg _ _ (by decide)
  obtain ⟨M', e4, s4⟩ := lw_loop (d := 300) (L := (L : Int)) (by omega) (by omega) (by omega) L 0 M3 (by omega) (by omega) R hL4 (fun j => by
    rw [hX]
    have h1 := Int32.le_toInt (xs j.toNat)
    have h2 := Int32.toInt_lt (xs j.toNat)
    omega)
  refine ⟨M', ?_, s4⟩
  have hM0 : (((am_mL L xs).1 : Nat) : Int) = 1 := rfl
  rw [aq_306, hM0, ax_gtb (by rfl), ax_let, ax_gtb (by rfl), e1, Option.bind_some]
  dsimp only []
  rw [ax_let, n1, ax_gtb (by rfl), ax_let, ax_gtb (by rfl), e2, e3, Option.bind_some, Option.bind_some]
  dsimp only []
  rw [ax_let]
  exact e4
