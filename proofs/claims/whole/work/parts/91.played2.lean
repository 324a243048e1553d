/-! played: a clause -/
section
variable {M V : am_M} {d : Nat} {s t j : Int}
noncomputable def dq (d : Nat) (M : am_M) (k a b c : Int) : Option (Int × am_M) := if k = 4 then ((am_Call d 184 [(2, 1), (0, a), (0, b), (0, c)] M).bind fun r => if r.1 = (-1) then (some (0, r.2)) else (some (1, r.2))) else if k = 5 then ((am_Call d 242 [(2, 1), (0, a), (0, b), (0, c)] M).bind fun r => if r.1 = (-1) then (some (0, r.2)) else (some (1, r.2))) else if k = 6 then ((am_Call d 212 [(2, 1), (0, a)] M).bind fun r => am_g (r.1 == 0 || r.1 == 1) (some (r.1, r.2))) else if k = 7 then ((am_Call d 117 [(2, 8), (0, a), (0, b)] M).bind fun r => if r.1 = 0 then ((am_Call d 185 [(2, 1), (0, a), (0, b), (0, 1)] r.2).bind fun r => am_g (r.1 == 0 || r.1 == 1) (some (r.1, r.2))) else ((am_Call d 185 [(2, 1), (0, a), (0, b), (0, 0)] r.2).bind fun r => am_g (r.1 == 0 || r.1 == 1) (some (r.1, r.2)))) else if k = 8 then ((am_Call d 186 [(2, 1), (0, a), (0, b)] M).bind fun r => am_g (r.1 == 0 || r.1 == 1) (some (r.1, r.2))) else if k = 9 then ((am_Call d 213 [(2, 1), (0, b), (0, a)] M).bind fun r => if r.1 = (-1) then (some (0, r.2)) else (some (1, r.2))) else if k = 10 then ((am_Call d 261 [(2, 1), (0, a)] M).bind fun r => if r.1 = (-1) then (some (0, r.2)) else (some (1, r.2))) else (some (1, M))
theorem c_278r (hK : ax_K M) (hs : hS s) (j0 : 0 ≤ j) (j1 : j < 24) : am_Call d 278 [(2, 1), (2, s), (0, j)] M = dq d M (am_rd M (s + 4) j) (am_rd M (s + 5) (3 * j)) (am_rd M (s + 5) (3 * j + 1)) (am_rd M (s + 5) (3 * j + 2)) := by
  have e0 := c_58s (d := d) (w := 0) hK hs j0 j1 (by omega) (by omega)
  rw [Int.add_zero] at e0
  have e1 := c_58s (d := d) (w := 1) hK hs j0 j1 (by omega) (by omega)
  have e2 := c_58s (d := d) (w := 2) hK hs j0 j1 (by omega) (by omega)
  have e3 := c_57s (d := d) hK hs j0 j1
  rw [aq_278, hS_ob hs, ax_gt, e0, Option.bind_some]
  dsimp only []
  rw [e1, Option.bind_some]
  dsimp only []
  rw [e2, Option.bind_some]
  dsimp only []
  rw [e3, Option.bind_some]
  dsimp only []
  rw [kr_1_2 hK]
  rfl
noncomputable def mq (d : Nat) (t j : Int) (M : am_M) (k a b c : Int) : Option (Int × am_M) := if k = 4 then ((am_Call d 253 [(2, 447), (0, a), (0, b), (0, c)] M).bind fun r => if r.1 = (-1) then (am_Ex d 305 139 [(2, 447), (0, t), (0, j), am_N, am_N, am_N, (0, 0)] [] r.2) else (am_Ex d 305 139 [(2, 447), (0, t), (0, j), am_N, am_N, am_N, (0, 1)] [] r.2)) else if k = 5 then ((am_Call d 283 [(2, 447), (0, a), (0, b), (0, c)] M).bind fun r => if r.1 = (-1) then (am_Ex d 305 139 [(2, 447), (0, t), (0, j), am_N, am_N, am_N, (0, 0)] [] r.2) else (am_Ex d 305 139 [(2, 447), (0, t), (0, j), am_N, am_N, am_N, (0, 1)] [] r.2)) else if k = 6 then ((am_Call d 226 [(2, 447), (0, a)] M).bind fun r => am_Ex d 305 139 [(2, 447), (0, t), (0, j), am_N, am_N, am_N, (0, r.1)] [] r.2) else if k = 7 then ((am_Call d 144 [(2, 447), (0, a)] M).bind fun r121 => if r121.1 = 0 then (am_Ex d 305 103 [(2, 447), (0, t), (0, j), am_N, am_N, am_N, am_N] [] r121.2) else (am_g (am_ar (am_rd r121.2 447 0) 20 (am_w32 (204 + a))) <| (am_Call d 65 [(0, am_rd r121.2 (am_rd r121.2 447 0) (am_w32 (204 + a))), (0, b)] r121.2).bind fun r124 => if r124.1 = 0 then ((am_Call d 227 [(2, 447), (0, a), (0, b), (0, 1)] r124.2).bind fun r126 => if r126.1 = 0 then (am_Ex d 305 103 [(2, 447), (0, t), (0, j), am_N, am_N, am_N, am_N] [] r126.2) else (am_Ex d 305 139 [(2, 447), (0, t), (0, j), am_N, am_N, am_N, (0, 1)] [] r126.2)) else ((am_Call d 227 [(2, 447), (0, a), (0, b), (0, 0)] r124.2).bind fun r128 => if r128.1 = 0 then (am_Ex d 305 103 [(2, 447), (0, t), (0, j), am_N, am_N, am_N, am_N] [] r128.2) else (am_Ex d 305 139 [(2, 447), (0, t), (0, j), am_N, am_N, am_N, (0, 1)] [] r128.2)))) else if k = 8 then ((am_Call d 228 [(2, 447), (0, a), (0, b)] M).bind fun r131 => am_Ex d 305 139 [(2, 447), (0, t), (0, j), am_N, am_N, am_N, (0, r131.1)] [] r131.2) else if k = 9 then ((am_Call d 229 [(2, 447), (0, b), (0, a)] M).bind fun r133 => if r133.1 = (-1) then (am_Ex d 305 139 [(2, 447), (0, t), (0, j), am_N, am_N, am_N, (0, 0)] [] r133.2) else (am_Ex d 305 139 [(2, 447), (0, t), (0, j), am_N, am_N, am_N, (0, 1)] [] r133.2)) else if k = 10 then ((am_Call d 284 [(2, 447), (0, a)] M).bind fun r136 => if r136.1 = (-1) then (am_Ex d 305 139 [(2, 447), (0, t), (0, j), am_N, am_N, am_N, (0, 0)] [] r136.2) else (am_Ex d 305 139 [(2, 447), (0, t), (0, j), am_N, am_N, am_N, (0, 1)] [] r136.2)) else if k = 11 then ((am_Call d 304 [(2, 447), (0, a)] M).bind fun r139 => am_Ex d 305 139 [(2, 447), (0, t), (0, j), am_N, am_N, am_N, (0, r139.1)] [] r139.2) else (am_Ex d 305 139 [(2, 447), (0, t), (0, j), am_N, am_N, am_N, (0, 1)] [] M)
theorem m_305r (hK : ax_K M) (t0 : 0 ≤ t) (t1 : t < 4) (j0 : 0 ≤ j) (j1 : j < 24) (hl : j < am_rd M 451 t) : am_Ex d 305 15 [(2, 447), (0, t), (0, j), am_N, am_N, am_N, am_N] [] M = mq d t j M (am_rd M 452 (24 * t + j)) (am_rd M 454 (24 * t + j)) (am_rd M 455 (24 * t + j)) (am_rd M 456 (24 * t + j)) := by
  rw [aq_305_15, show am_ob 447 11 = true from rfl, ax_gt, kr_447_6 hK, ax_a_451, ax_gi (by omega) (by omega), if_pos hl, ax_w32 (x := 24 * t) (by omega) (by omega), ax_w32 (x := 24 * t + j) (by omega) (by omega), ax_let, kr_447_9 hK, ax_a_454, ax_gi (by omega) (by omega), ax_let, kr_447_10 hK, ax_a_455, ax_gi (by omega) (by omega), ax_let, kr_447_7 hK, ax_a_452, ax_gi (by omega) (by omega), kr_447_11 hK]
  simp only [ax_a_456]
  rw [ax_gi (by omega) (by omega), ax_gi (by omega) (by omega)]
  rfl
/-- both sides behind a clause -/
def PL (d : Nat) (V : am_M) (s t j : Int) : Prop := ∃ (b : Int) (V' : am_M), (∀ X, ax_K X → am_Ex d 291 26 [(2, 1), am_N, (2, s), (0, j), am_N] [] (mix true V X) = if b = 0 then some (j, mix true V' X) else am_Ex d 291 26 [(2, 1), am_N, (2, s), (0, j + 1), am_N] [] (mix true V' X)) ∧ (∀ Y, ax_K Y → am_Ex d 305 15 [(2, 447), (0, t), (0, j), am_N, am_N, am_N, am_N] [] (mix false V Y) = if b = 0 then some (j, mix false V' Y) else am_Ex d 305 15 [(2, 447), (0, t), (0, j + 1), am_N, am_N, am_N, am_N] [] (mix false V' Y)) ∧ RR V' ∧ am_rd V' 448 3 = am_rd V 448 3
/-- what a text has at a clause, on both sides -/
def PF (V : am_M) (s t j : Int) (k a b c : Int) : Prop := (j < am_rd V s 6 ∧ j < am_rd V 451 t) ∧ (am_rd V (s + 4) j = k ∧ am_rd V 452 (24 * t + j) = k) ∧ (4 ≤ k → am_rd V (s + 5) (3 * j) = a ∧ am_rd V 454 (24 * t + j) = a) ∧ (k = 4 ∨ k = 5 ∨ k = 7 ∨ k = 8 ∨ k = 9 → am_rd V (s + 5) (3 * j + 1) = b ∧ am_rd V 455 (24 * t + j) = b) ∧ (k = 4 ∨ k = 5 → am_rd V (s + 5) (3 * j + 2) = c ∧ am_rd V 456 (24 * t + j) = c)
theorem pl_of {k p q r b : Int} {V' : am_M} (a : RR V) (hs : hS s) (t0 : 0 ≤ t) (t1 : t < 4) (j0 : 0 ≤ j) (j1 : j < 24) (f : PF V s t j k p q r) (hk : k ≠ 11) (h1 : ∀ X, ax_K X → dq d (mix true V X) k (am_rd V (s + 5) (3 * j)) (am_rd V (s + 5) (3 * j + 1)) (am_rd V (s + 5) (3 * j + 2)) = some (b, mix true V' X)) (h2 : ∀ Y, ax_K Y → mq d t j (mix false V Y) k (am_rd V 454 (24 * t + j)) (am_rd V 455 (24 * t + j)) (am_rd V 456 (24 * t + j)) = am_Ex d 305 139 [(2, 447), (0, t), (0, j), am_N, am_N, am_N, (0, b)] [] (mix false V' Y)) (R : RR V') (R3 : am_rd V' 448 3 = am_rd V 448 3) : PL d V s t j := by
  have sb := hS_b hs
  have rd : ∀ X c i, c < 447 → am_rd (mix true V X) c i = am_rd V c i := fun X c i h => mix_rd (reg_t h)
  have rm : ∀ Y c i, 447 ≤ c → c < 484 → am_rd (mix false V Y) c i = am_rd V c i := fun Y c i h h' => mix_rd (reg_f h h')
  refine ⟨b, V', fun X hX => ?_, fun Y hY => ?_, R, R3⟩
  · refine c_291d (mix_K a.1 hX) hs j0 j1 (by rw [rd X s 6 (by omega)]; exact f.1.1) (by rw [rd X _ _ (by omega), f.2.1.1]; exact hk) ?_
    rw [c_278r (mix_K a.1 hX) hs j0 j1, rd X _ _ (by omega), rd X _ _ (by omega), rd X _ _ (by omega), rd X _ _ (by omega), f.2.1.1]
    exact h1 X hX
  · rw [m_305r (mix_K a.1 hY) t0 t1 j0 j1 (by rw [rm Y _ _ (by omega) (by omega)]; exact f.1.2), rm Y _ _ (by omega) (by omega), rm Y _ _ (by omega) (by omega), rm Y _ _ (by omega) (by omega), rm Y _ _ (by omega) (by omega), f.2.1.2, h2 Y hY, m_305e j0 j1]
theorem pl_law {k p q r : Int} (a : RR V) (hs : hS s) (t0 : 0 ≤ t) (t1 : t < 4) (j0 : 0 ≤ j) (j1 : j < 24) (f : PF V s t j k p q r) (hk : k < 4) : PL d V s t j := by
  refine pl_of (b := 1) (V' := V) a hs t0 t1 j0 j1 f (by omega) (fun X _ => ?_) (fun Y _ => ?_) a rfl
  · unfold dq
    rw [if_neg (by omega), if_neg (by omega), if_neg (by omega), if_neg (by omega), if_neg (by omega), if_neg (by omega), if_neg (by omega)]
  · unfold mq
    rw [if_neg (by omega), if_neg (by omega), if_neg (by omega), if_neg (by omega), if_neg (by omega), if_neg (by omega), if_neg (by omega), if_neg (by omega)]
theorem na3 {x y z : Int} : ∀ v ∈ ([(0, x), (0, y), (0, z)] : List am_V), v.1 = 0 := by
  intro v hv
  rcases List.mem_cons.mp hv with e | hv
  · rw [e]
  rcases List.mem_cons.mp hv with e | hv
  · rw [e]
  rcases List.mem_cons.mp hv with e | hv
  · rw [e]
  · exact absurd hv List.not_mem_nil
theorem na2 {x y : Int} : ∀ v ∈ ([(0, x), (0, y)] : List am_V), v.1 = 0 := fun v hv => na3 (x := x) (y := x) (z := y) v (List.mem_cons_of_mem _ hv)
theorem na1 {x : Int} : ∀ v ∈ ([(0, x)] : List am_V), v.1 = 0 := fun v hv => by
  rcases List.mem_cons.mp hv with e | hv
  · rw [e]
  · exact absurd hv List.not_mem_nil
end
