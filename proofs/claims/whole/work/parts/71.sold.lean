/-! sold: the outer loops -/
section
variable {M : am_M} {d : Nat} {n T x : Int} {L V : Int → Int}
def wtF (V : Int → Int) (T y : Int) : Int := ax_fo (fun t s => am_w32 (s + am_w32 (am_and (am_shr y t) 1 * V t))) (T - 0).toNat 0 0
def sdF (L V : Int → Int) (n T x : Int) (k s : Int) : Int := if ax_cn k ≤ x then max s (wtF V T (ax_fo (unF L k) (n - 0).toNat 0 0)) else s
theorem unF_congr {L' : Int → Int} {k : Int} (h : ∀ j, 0 ≤ j → j < n → L j = L' j) : ax_fo (unF L k) (n - 0).toNat 0 0 = ax_fo (unF L' k) (n - 0).toNat 0 0 :=
  ax_fo_congr _ _ _ fun i a h1 h2 => by unfold unF; rw [h i h1 (by omega)]
theorem c_260 (hK : ax_K M) (b : cg_B M) (hn : am_rd M 2 6 = n) (hT : am_rd M 2 5 = T) (n0 : 0 ≤ n) (n6 : n ≤ 6) (hL : ∀ j, 0 ≤ j → j < n → am_rd M 443 j = L j) (hV : ∀ j, 0 ≤ j → j < T → am_rd M 3 j = V j) : am_Ex d 260 7 [(2, 442), (0, x), (0, 0), (0, 0)] [] M = some (ax_fo (sdF L V n T x) (((2 ^ n.toNat : Nat) : Int) - 0).toNat 0 0, M) := by
  have pw := ax_pw n0 (by omega : n ≤ 8)
  have sh := ax_shl1 n0 (by omega : n < 31)
  generalize hN : ((2 ^ n.toNat : Nat) : Int) = N at *
  refine ax_loop (X := fun k s => am_Ex d 260 7 [(2, 442), (0, x), (0, s), (0, k)] [] M) (E := fun s => some (s, M)) (n := N) (fun k _ => 0 ≤ k) ?_ ?_ _ _ _ (by omega) (by omega)
  · intro k s k0 k1
    refine ⟨?_, by omega⟩
    have e28 : ∀ s, am_Ex d 260 28 [(2, 442), (0, x), (0, s), (0, k)] [] M = am_Ex d 260 7 [(2, 442), (0, x), (0, s), (0, k + 1)] [] M := fun s => by
      rw [aq_260_28, ax_w32 (by omega) (by omega), ax_let]
    have ew : ∀ y, ax_fo (fun t s => am_w32 (s + am_w32 (am_and (am_shr y t) 1 * am_rd M 3 t))) (T - 0).toNat 0 0 = wtF V T y := fun y => ax_fo_congr _ _ _ fun i a h1 h2 => by rw [hV i h1 (by omega)]
    show am_Ex d 260 7 _ _ _ = am_Ex d 260 7 _ _ _
    rw [aq_260_7, kr_442_0 hK, show am_ob 442 7 = true from rfl, show am_ob 2 2 = true from rfl, ax_gt, ax_gt, hn, sh, if_pos k1, c_99 k0 (by omega), Option.bind_some]
    dsimp only []
    unfold sdF
    by_cases h : ax_cn k ≤ x
    · rw [if_pos h, if_pos h, c_48 hK hn n0 n6, Option.bind_some]
      dsimp only []
      rw [kr_442_0 hK, show am_ob 2 2 = true from rfl, ax_gt, c_18 hK b, Option.bind_some]
      dsimp only []
      rw [ax_let, e28, hT, ew, unF_congr hL]
    · rw [if_neg h, if_neg h, e28]
  · intro s _
    show am_Ex d 260 7 _ _ _ = _
    rw [aq_260_7, kr_442_0 hK, show am_ob 442 7 = true from rfl, show am_ob 2 2 = true from rfl, ax_gt, ax_gt, hn, sh, if_neg (by omega)]
end
