/-! sold: the model's outer loop -/
section
variable {M : am_M} {d : Nat} {n T x : Int} {L V : Int → Int}
theorem m_287s (hK : ax_K M) (hn : am_rd M 448 1 = n) (hT : am_rd M 448 0 = T) (n0 : 0 ≤ n) (n6 : n ≤ 6) (T0 : 0 ≤ T) (T8 : T ≤ 8) (hw : ∀ j, 0 ≤ j → j < 8 → 0 ≤ am_rd M 448 (10 + j) ∧ am_rd M 448 (10 + j) ≤ 99) (hL : ∀ j, 0 ≤ j → j < n → am_rd M 483 j = L j) (hV : ∀ j, 0 ≤ j → j < T → am_rd M 448 (10 + j) = V j) : am_Ex d 287 14 [(2, 447), (0, x), (0, 0), (0, 0), am_N] [] M = some (ax_fo (sdF L V n T x) (((2 ^ n.toNat : Nat) : Int) - 0).toNat 0 0, M) := by
  have pw := ax_pw n0 (by omega : n ≤ 8)
  have sh := ax_shl1 n0 (by omega : n < 31)
  generalize hN : ((2 ^ n.toNat : Nat) : Int) = N at *
  refine ax_loop (X := fun k s => am_Ex d 287 14 [(2, 447), (0, x), (0, s), (0, k), am_N] [] M) (E := fun s => some (s, M)) (n := N) (fun k _ => 0 ≤ k) ?_ ?_ _ _ _ (by omega) (by omega)
  · intro k s k0 k1
    refine ⟨?_, by omega⟩
    have e40 : ∀ s, am_Ex d 287 40 [(2, 447), (0, x), (0, s), (0, k), am_N] [] M = am_Ex d 287 14 [(2, 447), (0, x), (0, s), (0, k + 1), am_N] [] M := fun s => by
      rw [aq_287_40, ax_w32 (by omega) (by omega), ax_let]
    have ew : ∀ y, ax_fo (fun t s => am_w32 (s + am_w32 (am_and (am_shr y t) 1 * am_rd M 448 (10 + t)))) (T - 0).toNat 0 0 = wtF V T y := fun y => ax_fo_congr _ _ _ fun i a h1 h2 => by rw [hV i h1 (by omega)]
    show am_Ex d 287 14 _ _ _ = am_Ex d 287 14 _ _ _
    rw [aq_287_14, kr_447_0 hK, show am_ob 447 11 = true from rfl, ax_gt]
    simp only [ax_a_448]
    simp (disch := first | assumption | omega) only [ax_gt, ax_gi, Option.bind_some, ax_gbl, ax_gb2, ax_gd]
    rw [hn, sh, if_pos k1, m_66 k0 (by omega), Option.bind_some]
    dsimp only []
    unfold sdF
    by_cases h : ax_cn k ≤ x
    · rw [if_pos h, if_pos h, m_166 hK hn n0 n6, Option.bind_some]
      dsimp only []
      rw [m_165 hK hT T0 T8 hw, Option.bind_some]
      dsimp only []
      rw [ew, unF_congr hL]
      generalize wtF V T _ = v
      by_cases h2 : v ≤ s
      · rw [if_pos h2, e40, show max s v = s by omega]
      · rw [if_neg h2, e40, show max s v = v by omega]
    · rw [if_neg h, if_neg h, e40]
  · intro s _
    show am_Ex d 287 14 _ _ _ = _
    rw [aq_287_14, kr_447_0 hK, show am_ob 447 11 = true from rfl, ax_gt]
    simp only [ax_a_448]
    simp (disch := first | assumption | omega) only [ax_gt, ax_gi, Option.bind_some, ax_gbl, ax_gb2, ax_gd]
    rw [hn, sh, if_neg (by omega)]
end
