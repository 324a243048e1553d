/-! told -/
theorem nb_az {a z t : Nat} : (a ||| 2 ^ t) &&& z = if z.testBit t = true then (a &&& z) ||| 2 ^ t else a &&& z := by
  refine Nat.eq_of_testBit_eq fun i => ?_
  by_cases hz : z.testBit t = true
  · rw [if_pos hz, Nat.testBit_and, Nat.testBit_or, Nat.testBit_or, Nat.testBit_and]
    by_cases e : t = i
    · rw [← e, Nat.testBit_two_pow_self, Bool.or_true, Bool.or_true, Bool.true_and, hz]
    · rw [Nat.testBit_two_pow_of_ne e, Bool.or_false, Bool.or_false]
  · rw [if_neg hz, Nat.testBit_and, Nat.testBit_or, Nat.testBit_and]
    by_cases e : t = i
    · have : z.testBit i = false := by rw [← e]; cases h : z.testBit t with
        | true => exact absurd h hz
        | false => rfl
      rw [this, Bool.and_false, Bool.and_false]
    · rw [Nat.testBit_two_pow_of_ne e, Bool.or_false]
theorem bi_az {a z t : Int} (a0 : 0 ≤ a) (a1 : a < 256) (z0 : 0 ≤ z) (z1 : z < 256) (t0 : 0 ≤ t) (t1 : t < 8) : am_and (am_or a (am_shl 1 t)) z = if am_and (am_shr z t) 1 = 1 then am_or (am_and a z) (am_shl 1 t) else am_and a z := by
  have p := bi_p t0 t1
  have p0 := bi_p0 (f := t)
  have ob := Nat.or_lt_two_pow (n := 8) (x := a.toNat) (y := 2 ^ t.toNat) (by omega) p
  have ab : a.toNat &&& z.toNat < 256 := Nat.lt_of_le_of_lt Nat.and_le_left (by omega)
  have hb := ax_bit (x := z) (t := t) z0 (by omega) t0 (by omega)
  have hn := nb_az (a := a.toNat) (z := z.toNat) (t := t.toNat)
  have sh := ax_shl1 t0 (by omega : t < 31)
  generalize 2 ^ t.toNat = w at *
  have ob : a.toNat ||| w < 256 := ob
  have o1 := ax_or_nn (x := a) (y := (w : Int)) a0 (by omega) (by omega) (by omega)
  rw [Int.toNat_natCast] at o1
  have q1 := ax_and_nn (x := ((a.toNat ||| w : Nat) : Int)) (y := z) (by omega) (by omega) z0
  rw [Int.toNat_natCast] at q1
  have q2 := ax_and_nn (x := a) (y := z) a0 (by omega) z0
  have o2 := ax_or_nn (x := ((a.toNat &&& z.toNat : Nat) : Int)) (y := (w : Int)) (by omega) (by omega) (by omega) (by omega)
  rw [Int.toNat_natCast, Int.toNat_natCast] at o2
  rw [sh, o1, q1, q2, hn, o2]
  by_cases h : z.toNat.testBit t.toNat = true
  · rw [if_pos h, if_pos (by rw [hb]; exact h)]
  · rw [if_neg h, if_neg (by rw [hb]; exact h)]
def byF (z : Int) (L : Int → Int) (x t s : Int) : Int := if am_and (am_shr z t) 1 = 1 then (if am_and (am_shr (L t) x) 1 = 1 then am_or s (am_shl 1 t) else am_or s 0) else am_or s 0
theorem by_ld {L : Int → Int} {T z x : Int} (T0 : 0 ≤ T) (T8 : T ≤ 8) (z0 : 0 ≤ z) (z1 : z < 256) : ax_fo (byF z L x) (T - 0).toNat 0 0 = am_and (lds L T x) z ∧ 0 ≤ lds L T x ∧ lds L T x < 256 := by
  unfold lds
  have key := ax_fo_rel (f := byF z L x) (g := ldF L x) (P := fun _ b a => (0 ≤ a ∧ a < 256) ∧ b = am_and a z) (T - 0).toNat 0 0 0 (fun t b a t0 t1 h => by
    obtain ⟨ha, h1⟩ := h
    have hr : 0 ≤ am_and a z ∧ am_and a z < 256 := by
      rw [ax_and_nn ha.1 (by omega) z0]
      have : a.toNat &&& z.toNat ≤ a.toNat := Nat.and_le_left
      omega
    unfold byF ldF
    rcases ax_01 (am_shr (L t) x) with e | e
    · rw [e, shl0 t0 (by omega), ax_or0 ha.1 (by omega), if_neg (show ¬ (0 : Int) = 1 by decide), h1, ax_or0 hr.1 (by omega), ite_self]
      exact ⟨ha, rfl⟩
    · rw [e, if_pos (show (1 : Int) = 1 from rfl), bi_az ha.1 ha.2 z0 z1 t0 (by omega), h1]
      refine ⟨(bi_or (f := t) ha.1 ha.2 z0 z1 t0 (by omega)).1, ?_⟩
      by_cases hz : am_and (am_shr z t) 1 = 1
      · rw [if_pos hz, if_pos hz]
      · rw [if_neg hz, if_neg hz, ax_or0 hr.1 (by omega)]) ⟨by omega, ((and_z0 z0 z1).2).symm⟩
  exact ⟨key.2, key.1⟩
def tl (L : Int → Int) (T z : Int) (v : Int → Int) : Nat → Int → Int → Bool
  | 0, _, _ => true
  | j + 1, k, s => if am_and (lds L T (v k)) z ≠ 0 ∧ am_and (am_and (lds L T (v k)) z) s = 0 then false else tl L T z v j (k + 1) (am_or s (am_shl 1 (v k)))
theorem tl_congr {L : Int → Int} {T z : Int} {v w : Int → Int} : ∀ (j : Nat) (k s : Int), (∀ i, k ≤ i → i < k + j → v i = w i) → tl L T z v j k s = tl L T z w j k s := by
  intro j
  induction j with
  | zero => intro k s _; rfl
  | succ j ih =>
    intro k s h
    show (if am_and (lds L T (v k)) z ≠ 0 ∧ am_and (am_and (lds L T (v k)) z) s = 0 then false else tl L T z v j (k + 1) (am_or s (am_shl 1 (v k)))) = (if am_and (lds L T (w k)) z ≠ 0 ∧ am_and (am_and (lds L T (w k)) z) s = 0 then false else tl L T z w j (k + 1) (am_or s (am_shl 1 (w k))))
    rw [h k (by omega) (by omega), ih _ _ fun i h1 h2 => h i (by omega) (by omega)]
section
variable {M : am_M} {d : Nat} {T z n : Int} {L v : Int → Int}
theorem c_124l (hK : ax_K M) (b : cg_B M) (hT : am_rd M 2 5 = T) (hL : ∀ j, 0 ≤ j → j < T → am_rd M 4 j = L j) (hs : am_rd M 444 4 = n) (n6 : n ≤ 6) (ho : OV M v n) : ∀ (j : Nat) (k s : Int), k + j = n → 0 ≤ k → am_Ex d 124 5 [(2, 444), (0, z), (0, s), (0, k), am_N] [] M = some (if tl L T z v j k s = true then 1 else 0, M) := by
  intro j
  induction j with
  | zero =>
    intro k s h k0
    rw [aq_124_5, show am_ob 444 5 = true from rfl, ax_gt, hs, if_neg (by omega)]
    rfl
  | succ j ih =>
    intro k s h k0
    have e31 : am_Ex d 124 31 [(2, 444), (0, z), (0, s), (0, k), am_N] [] M = am_Ex d 124 5 [(2, 444), (0, z), (0, am_or s (am_shl 1 (v k))), (0, k + 1), am_N] [] M := by
      rw [aq_124_31, show am_ob 444 5 = true from rfl, ax_gt, kr_444_2 hK, ax_a_445, ax_gi (by omega) (by omega), ho k k0 (by omega), ax_let, ax_w32 (by omega) (by omega), ax_let]
    rw [aq_124_5, show am_ob 444 5 = true from rfl, ax_gt, hs, if_pos (by omega), if_pos (by omega), kr_444_2 hK, kr_444_0 hK, ax_a_445, ax_gi (by omega) (by omega), show am_ob 2 2 = true from rfl, ax_gt, ho k k0 (by omega), c_19l hK b hT hL, Option.bind_some]
    dsimp only []
    rw [ax_let]
    show _ = some (if (if am_and (lds L T (v k)) z ≠ 0 ∧ am_and (am_and (lds L T (v k)) z) s = 0 then false else tl L T z v j (k + 1) (am_or s (am_shl 1 (v k)))) = true then 1 else 0, M)
    by_cases h1 : am_and (lds L T (v k)) z = 0
    · have hh : ¬ (am_and (lds L T (v k)) z ≠ 0 ∧ am_and (am_and (lds L T (v k)) z) s = 0) := fun q => q.1 h1
      rw [if_pos h1, e31, ih (k + 1) _ (by omega) (by omega), if_neg hh]
    · rw [if_neg h1]
      by_cases h2 : am_and (am_and (lds L T (v k)) z) s = 0
      · have hh : am_and (lds L T (v k)) z ≠ 0 ∧ am_and (am_and (lds L T (v k)) z) s = 0 := ⟨h1, h2⟩
        rw [if_pos h2, if_pos hh]; rfl
      · have hh : ¬ (am_and (lds L T (v k)) z ≠ 0 ∧ am_and (am_and (lds L T (v k)) z) s = 0) := fun q => h2 q.2
        rw [if_neg h2, e31, ih (k + 1) _ (by omega) (by omega), if_neg hh]
theorem c_124 (hK : ax_K M) (b : cg_B M) (hT : am_rd M 2 5 = T) (hL : ∀ j, 0 ≤ j → j < T → am_rd M 4 j = L j) (hs : am_rd M 444 4 = n) (n0 : 0 ≤ n) (n6 : n ≤ 6) (ho : OV M v n) : am_Call d 124 [(2, 444), (0, z)] M = some (if tl L T z v n.toNat 0 0 = true then 1 else 0, M) := by
  rw [aq_124]
  exact c_124l hK b hT hL hs n6 ho n.toNat 0 0 (by omega) (by omega)
theorem m_164l (hK : ax_K M) (hT : am_rd M 448 0 = T) (T0 : 0 ≤ T) (T8 : T ≤ 8) (z0 : 0 ≤ z) (z1 : z < 256) (hL : ∀ j, 0 ≤ j → j < T → am_rd M 448 (18 + j) = L j) (n6 : n ≤ 6) (ho : ∀ j, 0 ≤ j → j < n → am_rd M 481 j = v j) : ∀ (j : Nat) (k s : Int), k + j = n → 0 ≤ k → am_Ex d 164 5 [(2, 447), (0, n), (0, z), (0, s), (0, k), am_N, am_N] [] M = some (if tl L T z v j k s = true then 1 else 0, M) := by
  intro j
  induction j with
  | zero =>
    intro k s h k0
    rw [aq_164_5, if_neg (by omega)]
    rfl
  | succ j ih =>
    intro k s h k0
    have e54 : am_Ex d 164 54 [(2, 447), (0, n), (0, z), (0, s), (0, k), am_N, am_N] [] M = am_Ex d 164 5 [(2, 447), (0, n), (0, z), (0, am_or s (am_shl 1 (v k))), (0, k + 1), am_N, am_N] [] M := by
      rw [aq_164_54, show am_ob 447 11 = true from rfl, ax_gt, kr_447_51 hK, ax_a_481, ax_gi (by omega) (by omega), ho k k0 (by omega), ax_let, ax_w32 (by omega) (by omega), ax_let]
    have inner := ax_loop (X := fun t x => am_Ex d 164 13 [(2, 447), (0, n), (0, z), (0, s), (0, k), (0, x), (0, t)] [] M) (f := byF z L (v k)) (E := fun x => if x = 0 then am_Ex d 164 54 [(2, 447), (0, n), (0, z), (0, s), (0, k), am_N, am_N] [] M else if am_and x s = 0 then some (0, M) else am_Ex d 164 54 [(2, 447), (0, n), (0, z), (0, s), (0, k), am_N, am_N] [] M) (n := T) (fun t _ => 0 ≤ t) (fun t x t0 t1 => by
      refine ⟨?_, by omega⟩
      show am_Ex d 164 13 [(2, 447), (0, n), (0, z), (0, s), (0, k), (0, x), (0, t)] [] M = am_Ex d 164 13 [(2, 447), (0, n), (0, z), (0, s), (0, k), (0, byF z L (v k) t x), (0, t + 1)] [] M
      rw [aq_164_13, show am_ob 447 11 = true from rfl, ax_gt, kr_447_0 hK, ax_a_448, ax_gi (by omega) (by omega), hT, if_pos t1, m_65, Option.bind_some]
      dsimp only []
      unfold byF
      by_cases h1 : am_and (am_shr z t) 1 = 1
      · rw [if_neg (by rw [ax_b0]; exact fun q => q h1), if_pos h1, kr_447_0 hK, kr_447_51 hK, ax_w32 (x := 18 + t) (by omega) (by omega), ax_a_448, ax_gi (by omega) (by omega), ax_a_481, ax_gi (by omega) (by omega), hL t t0 t1, ho k k0 (by omega), m_65, Option.bind_some]
        dsimp only []
        by_cases h2 : am_and (am_shr (L t) (v k)) 1 = 1
        · rw [if_neg (by rw [ax_b0]; exact fun q => q h2), if_pos h2, ax_let, ax_w32 (by omega) (by omega), ax_let]
        · rw [if_pos (by rw [ax_b0]; exact h2), if_neg h2, ax_let, ax_w32 (by omega) (by omega), ax_let]
      · rw [if_pos (by rw [ax_b0]; exact h1), if_neg h1, ax_let, ax_w32 (by omega) (by omega), ax_let]) (fun x t0 => by
      show am_Ex d 164 13 [(2, 447), (0, n), (0, z), (0, s), (0, k), (0, x), (0, T)] [] M = _
      rw [aq_164_13, show am_ob 447 11 = true from rfl, ax_gt, kr_447_0 hK, ax_a_448, ax_gi (by omega) (by omega), hT, if_neg (Int.lt_irrefl T)])
    have in2 := inner (T - 0).toNat 0 0 (by omega) (by omega)
    rw [(by_ld T0 T8 z0 z1).1] at in2
    rw [aq_164_5, if_pos (by omega)]
    refine in2.trans ?_
    show _ = some (if (if am_and (lds L T (v k)) z ≠ 0 ∧ am_and (am_and (lds L T (v k)) z) s = 0 then false else tl L T z v j (k + 1) (am_or s (am_shl 1 (v k)))) = true then 1 else 0, M)
    by_cases h1 : am_and (lds L T (v k)) z = 0
    · have hh : ¬ (am_and (lds L T (v k)) z ≠ 0 ∧ am_and (am_and (lds L T (v k)) z) s = 0) := fun q => q.1 h1
      rw [if_pos h1, e54, ih (k + 1) _ (by omega) (by omega), if_neg hh]
    · rw [if_neg h1]
      by_cases h2 : am_and (am_and (lds L T (v k)) z) s = 0
      · have hh : am_and (lds L T (v k)) z ≠ 0 ∧ am_and (am_and (lds L T (v k)) z) s = 0 := ⟨h1, h2⟩
        rw [if_pos h2, if_pos hh]; rfl
      · have hh : ¬ (am_and (lds L T (v k)) z ≠ 0 ∧ am_and (am_and (lds L T (v k)) z) s = 0) := fun q => h2 q.2
        rw [if_neg h2, e54, ih (k + 1) _ (by omega) (by omega), if_neg hh]
theorem m_164 (hK : ax_K M) (hT : am_rd M 448 0 = T) (T0 : 0 ≤ T) (T8 : T ≤ 8) (z0 : 0 ≤ z) (z1 : z < 256) (hL : ∀ j, 0 ≤ j → j < T → am_rd M 448 (18 + j) = L j) (n0 : 0 ≤ n) (n6 : n ≤ 6) (ho : ∀ j, 0 ≤ j → j < n → am_rd M 481 j = v j) : am_Call d 164 [(2, 447), (0, n), (0, z)] M = some (if tl L T z v n.toNat 0 0 = true then 1 else 0, M) := by
  rw [aq_164]
  exact m_164l hK hT T0 T8 z0 z1 hL n6 ho n.toNat 0 0 (by omega) (by omega)
end
/-- the order of a number -/
def ov (z : Int) (n o : Int) : Int → Int := fun j => asA z (fnl (ixl n.toNat o.toNat) j)
theorem as_mon {z : Int} (z0 : 0 ≤ z) (z1 : z < 256) : Mon (asA z) (ax_cn z).toNat := by
  have e := (as_fc (x := z) 8).trans (as_c z0 z1).1
  have p := (as_p (x := z) 8).2.2
  have c := (ax_cnr z).1
  rw [e] at p
  exact fun a b a0 ab b1 => p a b a0 ab (by omega)
theorem as_r {z j : Int} (z0 : 0 ≤ z) (z1 : z < 256) (j0 : 0 ≤ j) (j1 : j < ax_cn z) : 0 ≤ asA z j ∧ asA z j < 8 := by
  have e := (as_fc (x := z) 8).trans (as_c z0 z1).1
  have p := (as_p (x := z) 8).2.1
  rw [e] at p
  exact p j j0 j1
section
variable {d : Nat} {z n : Int}
/-- the cells hold the order of the number o; the next one -/
theorem c_125o {M : am_M} {o : Int} {v : Int → Int} (hK : ax_K M) (z0 : 0 ≤ z) (z1 : z < 256) (hn : ax_cn z = n) (n1 : 1 ≤ n) (n6 : n ≤ 6) (o0 : 0 ≤ o) (o1 : o < (fct n.toNat : Int)) (hs : am_rd M 444 4 = n) (ho : OV M v n) (hv : AU (asA z) (fnl (ixl n.toNat o.toNat)) v n.toNat) : ax_ok (am_Call d 125 [(2, 444)] M) (fun r M' => (if o + 1 = (fct n.toNat : Int) then r = 0 else r = 1 ∧ ∃ w, OV M' w n ∧ AU (asA z) (fnl (ixl n.toNat (o + 1).toNat)) w n.toNat) ∧ ∀ x i, x ≠ 445 → am_rd M' x i = am_rd M x i) := by
  obtain ⟨r, M1, e1, q1, f1⟩ := c_125 (d := d) hK ho hs n1 n6
  refine ⟨r, M1, e1, ?_, f1⟩
  have hA := as_mon z0 z1
  rw [hn] at hA
  have au := np_au hA hv (by omega)
  by_cases hl : o + 1 = (fct n.toNat : Int)
  · rw [if_pos hl]
    rw [np_last (n := n.toNat) (p := o.toNat) (by omega) (by omega)] at au
    revert q1 au
    cases npF n.toNat v with
    | none => intro q1 _; exact q1.1
    | some w => intro _ au; exact absurd au id
  · rw [if_neg hl]
    obtain ⟨w, hw, hw2⟩ := np_next (n := n.toNat) (p := o.toNat) (by omega) (by omega)
    rw [hw] at au
    revert q1 au
    cases npF n.toNat v with
    | none => intro _ au; exact absurd au id
    | some v' =>
      intro q1 au
      refine ⟨q1.1, v', q1.2, fun j j0 j1 => ?_⟩
      have := au j j0 j1
      rw [hw2 j j0 j1] at this
      rw [show (o + 1).toNat = o.toNat + 1 by omega]
      exact this
end
