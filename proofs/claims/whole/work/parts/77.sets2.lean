/-! sets: both sides' small ones -/
section
variable {M : am_M} {d : Nat} {T x z : Int} {L W R : Int → Int}
def lcB (L : Int → Int) (T z t : Int) : Bool := !(decide (am_and (am_shr z t) 1 = 1) && decide (lds L T t ≠ 0) && decide (am_and (lds L T t) z = 0))
theorem lcB_t : lcB L T z x = true ↔ ¬ (am_and (am_shr z x) 1 = 1 ∧ lds L T x ≠ 0 ∧ am_and (lds L T x) z = 0) := by
  unfold lcB
  by_cases h1 : am_and (am_shr z x) 1 = 1 <;> by_cases h2 : lds L T x = 0 <;> by_cases h3 : am_and (lds L T x) z = 0 <;> simp [h1, h2, h3]
theorem c_19l (hK : ax_K M) (b : cg_B M) (hT : am_rd M 2 5 = T) (hL : ∀ j, 0 ≤ j → j < T → am_rd M 4 j = L j) : am_Call d 19 [(2, 2), (0, x)] M = some (lds L T x, M) := by
  rw [c_19 hK b, hT]
  congr 2
  unfold lds
  exact ax_fo_congr _ _ _ fun t s h1 h2 => by unfold ldF; rw [hL t h1 (by omega)]
theorem c_129 (hK : ax_K M) (b : cg_B M) (hT : am_rd M 2 5 = T) (hL : ∀ j, 0 ≤ j → j < T → am_rd M 4 j = L j) : am_Call d 129 [(2, 442), (0, z)] M = some (if ax_al (lcB L T z) (T - 0).toNat 0 = true then 1 else 0, M) := by
  have bT := b.1
  rw [hT] at bT
  rw [aq_129]
  have key := ax_loopA (X := fun t => am_Ex d 129 3 [(2, 442), (0, z), (0, t), am_N] [] M) (f := lcB L T z) (E1 := some (1, M)) (E0 := some (0, M)) (n := T) (fun t t0 t1 => by
    have e28 : am_Ex d 129 28 [(2, 442), (0, z), (0, t), am_N] [] M = am_Ex d 129 3 [(2, 442), (0, z), (0, t + 1), am_N] [] M := by
      rw [aq_129_28, ax_w32 (by omega) (by omega), ax_let]
    show am_Ex d 129 3 [(2, 442), (0, z), (0, t), am_N] [] M = if lcB L T z t = true then am_Ex d 129 3 [(2, 442), (0, z), (0, t + 1), am_N] [] M else some (0, M)
    rw [aq_129_3, kr_442_0 hK, show am_ob 442 7 = true from rfl, show am_ob 2 2 = true from rfl, ax_gt, ax_gt, hT, if_pos t1, c_19l hK b hT hL, Option.bind_some]
    dsimp only []
    by_cases h1 : am_and (am_shr z t) 1 = 0
    · rw [if_pos h1, e28, if_pos (lcB_t.mpr fun h => by omega)]
    · rw [if_neg h1]
      by_cases h2 : lds L T t = 0
      · rw [if_pos h2, e28, if_pos (lcB_t.mpr fun h => h.2.1 h2)]
      · rw [if_neg h2]
        by_cases h3 : am_and (lds L T t) z = 0
        · rw [if_pos h3, if_neg (fun q => lcB_t.mp q ⟨by have := ax_01 (am_shr z t); omega, h2, h3⟩)]
        · rw [if_neg h3, e28, if_pos (lcB_t.mpr fun h => h3 h.2.2)]) (by
    show am_Ex d 129 3 [(2, 442), (0, z), (0, T), am_N] [] M = some (1, M)
    rw [aq_129_3, kr_442_0 hK, show am_ob 442 7 = true from rfl, show am_ob 2 2 = true from rfl, ax_gt, ax_gt, hT, if_neg (Int.lt_irrefl T)])
  have k2 := key (T - 0).toNat 0 (by omega) (by omega)
  exact k2.trans (by split <;> rfl)
theorem m_160 (hK : ax_K M) (hT : am_rd M 448 0 = T) (T0 : 0 ≤ T) (T8 : T ≤ 8) (z0 : 0 ≤ z) (z1 : z < 256) (hL : ∀ j, 0 ≤ j → j < T → am_rd M 448 (18 + j) = L j) : am_Call d 160 [(2, 447), (0, z), (0, x)] M = some (if lds L T x ≠ 0 ∧ am_and (lds L T x) z = 0 then 0 else 1, M) := by
  obtain ⟨b1, b2, b3⟩ := ld_fg (L := L) (T := T) (z := z) (x := x) T0 T8 z0 z1
  have key := ax_loop (X := fun q a => am_Ex d 160 7 [(2, 447), (0, z), (0, x), (0, a.1), (0, a.2), (0, q)] [] M) (f := fgF L z x) (E := fun a => some (if a.1 ≠ 0 ∧ a.2 = 0 then 0 else 1, M)) (n := T) (fun q a => 0 ≤ q ∧ (a.1 = 0 ∨ a.1 = 1) ∧ (a.2 = 0 ∨ a.2 = 1)) (fun q a ⟨q0, a1, a2⟩ q1 => by
    obtain ⟨u, v⟩ := a
    dsimp only at a1 a2
    have e48 : ∀ u, am_Ex d 160 48 [(2, 447), (0, z), (0, x), (0, u), am_N, (0, q)] [] M = am_Ex d 160 7 [(2, 447), (0, z), (0, x), (0, u), (0, 0), (0, q + 1)] [] M := fun u => by
      rw [aq_160_48, ax_w32 (by omega) (by omega), ax_let]
    have e45 : ∀ u, am_Ex d 160 45 [(2, 447), (0, z), (0, x), (0, u), am_N, (0, q)] [] M = am_Ex d 160 7 [(2, 447), (0, z), (0, x), (0, u), (0, 1), (0, q + 1)] [] M := fun u => by
      rw [aq_160_45, ax_w32 (by omega) (by omega), ax_let]
    have e25 : am_Ex d 160 25 [(2, 447), (0, z), (0, x), am_N, (0, v), (0, q)] [] M = am_Ex d 160 7 [(2, 447), (0, z), (0, x), (0, 1), (0, if am_and (am_shr (L q) x) 1 = 1 then (if am_and (am_shr z q) 1 = 1 then 1 else v) else v), (0, q + 1)] [] M := by
      rw [aq_160_25]
      by_cases hv : v = 0
      · rw [if_pos hv, show am_ob 447 11 = true from rfl, ax_gt, kr_447_0 hK, ax_a_448, ax_w32 (x := 18 + q) (by omega) (by omega), ax_gi (by omega) (by omega), hL q q0 q1, m_65, Option.bind_some]
        dsimp only []
        by_cases h1 : am_and (am_shr (L q) x) 1 = 1
        · rw [if_neg (by rw [ax_b0]; exact fun p => p h1), m_65, Option.bind_some, if_pos h1]
          dsimp only []
          by_cases h2 : am_and (am_shr z q) 1 = 1
          · rw [if_neg (by rw [ax_b0]; exact fun p => p h2), e45, if_pos h2]
          · rw [if_pos (by rw [ax_b0]; exact h2), e48, if_neg h2, hv]
        · rw [if_pos (by rw [ax_b0]; exact h1), e48, if_neg h1, hv]
      · rw [if_neg hv, e45]
        have v1 : v = 1 := by omega
        rw [v1, ite_self, ite_self]
    refine ⟨?_, by omega, ?_, ?_⟩
    · show am_Ex d 160 7 [(2, 447), (0, z), (0, x), (0, u), (0, v), (0, q)] [] M = am_Ex d 160 7 [(2, 447), (0, z), (0, x), (0, (fgF L z x q (u, v)).1), (0, (fgF L z x q (u, v)).2), (0, q + 1)] [] M
      rw [aq_160_7, show am_ob 447 11 = true from rfl, ax_gt, kr_447_0 hK, ax_a_448, ax_gi (by omega) (by omega), hT, if_pos q1]
      unfold fgF
      by_cases hu : u = 0
      · rw [if_pos hu, ax_a_448, ax_w32 (x := 18 + q) (by omega) (by omega), ax_gi (by omega) (by omega), hL q q0 q1, m_65, Option.bind_some]
        dsimp only []
        by_cases h1 : am_and (am_shr (L q) x) 1 = 1
        · rw [if_neg (by rw [ax_b0]; exact fun p => p h1), e25, if_pos h1, if_pos h1]
        · rw [if_pos (by rw [ax_b0]; exact h1), if_neg h1]
          by_cases hv : v = 0
          · rw [if_pos hv, kr_447_0 hK, ax_a_448, ax_gi (by omega) (by omega), hL q q0 q1, m_65, Option.bind_some]
            dsimp only []
            rw [if_pos (by rw [ax_b0]; exact h1), e48, hu, hv]
          · rw [if_neg hv, e45, hu, show v = 1 by omega]
      · rw [if_neg hu, e25]
        have u1 : u = 1 := by omega
        by_cases h1 : am_and (am_shr (L q) x) 1 = 1
        · rw [if_pos h1, if_pos h1]
        · rw [if_neg h1, if_neg h1, u1]
    · unfold fgF; split
      · exact Or.inr rfl
      · exact a1
    · unfold fgF; split
      · show (if am_and (am_shr z q) 1 = 1 then 1 else v) = 0 ∨ (if am_and (am_shr z q) 1 = 1 then 1 else v) = 1
        split
        · exact Or.inr rfl
        · exact a2
      · exact a2) (fun a ⟨q0, a1, a2⟩ => by
    obtain ⟨u, v⟩ := a
    dsimp only at a1 a2
    show am_Ex d 160 7 [(2, 447), (0, z), (0, x), (0, u), (0, v), (0, T)] [] M = some (if u ≠ 0 ∧ v = 0 then 0 else 1, M)
    rw [aq_160_7, show am_ob 447 11 = true from rfl, ax_gt, kr_447_0 hK, ax_a_448, ax_gi (by omega) (by omega), hT, if_neg (Int.lt_irrefl T)]
    by_cases hu : u = 0
    · rw [if_pos hu, aq_160_57, if_neg (fun h => h.1 hu)]
    · rw [if_neg hu]
      by_cases hv : v = 0
      · rw [if_pos hv, if_pos ⟨hu, hv⟩]
      · rw [if_neg hv, aq_160_57, if_neg (fun h => hv h.2)])
  have k2 := key (T - 0).toNat 0 (0, 0) (by omega) ⟨by omega, Or.inl rfl, Or.inl rfl⟩
  rw [aq_160]
  refine k2.trans ?_
  congr 2
  by_cases h : lds L T x ≠ 0 ∧ am_and (lds L T x) z = 0
  · rw [if_pos h, if_pos ⟨fun q => h.1 (b2.mpr q), b3.mp h.2⟩]
  · rw [if_neg h, if_neg (fun q => h ⟨fun p => q.1 (b2.mp p), b3.mpr q.2⟩)]
end
