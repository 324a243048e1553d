/-! sets: what was done; the outer loops -/
section
variable {M : am_M} {d : Nat} {T n x z h : Int} {L W R : Int → Int}
def doF (W R : Int → Int) (x k s : Int) : Int := if ax_b (R k = 1) = x then am_or s (am_shl 1 (W k)) else am_or s 0
theorem do_1 {n z : Int} (n0 : 0 ≤ n) (z0 : 0 ≤ z) (z1 : z < 256) (hW : ∀ j, 0 ≤ j → j < n → 0 ≤ W j ∧ W j < 8) : (0 ≤ ax_fo (doF W R 1) (n - 0).toNat 0 0 ∧ ax_fo (doF W R 1) (n - 0).toNat 0 0 < 256) ∧ (am_and z (ax_fo (doF W R 1) (n - 0).toNat 0 0) = ax_fo (doF W R 1) (n - 0).toNat 0 0 ↔ ∀ j, 0 ≤ j → j < n → R j = 1 → am_and (am_shr z (W j)) 1 = 1) := by
  have key := ax_fo_inv (f := doF W R 1) (P := fun k s => (0 ≤ s ∧ s < 256) ∧ (am_and z s = s ↔ ∀ j, 0 ≤ j → j < k → R j = 1 → am_and (am_shr z (W j)) 1 = 1)) (n - 0).toNat 0 0 (fun k s k0 k1 hs => by
    obtain ⟨hs, h1⟩ := hs
    have w := hW k k0 (by omega)
    unfold doF
    by_cases e : R k = 1
    · rw [ax_bt e, if_pos rfl]
      obtain ⟨b1, -, -, -, b5⟩ := bi_or (f := W k) hs.1 hs.2 z0 z1 w.1 w.2
      refine ⟨b1, b5.trans ⟨fun ⟨p, q⟩ j j0 j1 hj => ?_, fun p => ⟨h1.mpr fun j j0 j1 hj => p j j0 (by omega) hj, p k k0 (by omega) e⟩⟩⟩
      by_cases ej : j = k
      · rw [ej]; exact q
      · exact h1.mp p j j0 (by omega) hj
    · rw [ax_bf e, if_neg (by decide), ax_or0 hs.1 (by omega)]
      refine ⟨hs, h1.trans ⟨fun p j j0 j1 hj => ?_, fun p j j0 j1 hj => p j j0 (by omega) hj⟩⟩
      by_cases ej : j = k
      · rw [ej] at hj; exact absurd hj e
      · exact p j j0 (by omega) hj) ⟨by omega, ⟨fun _ j j0 j1 => by omega, fun _ => (and_z0 z0 z1).1⟩⟩
  rw [show (0 : Int) + ((n - 0).toNat : Int) = n by omega] at key
  exact key
theorem do_0 {n z : Int} (n0 : 0 ≤ n) (z0 : 0 ≤ z) (z1 : z < 256) (hW : ∀ j, 0 ≤ j → j < n → 0 ≤ W j ∧ W j < 8) : (am_and z (ax_fo (doF W R 0) (n - 0).toNat 0 0) = 0 ↔ ∀ j, 0 ≤ j → j < n → ¬ R j = 1 → ¬ am_and (am_shr z (W j)) 1 = 1) := by
  have key := ax_fo_inv (f := doF W R 0) (P := fun k s => (0 ≤ s ∧ s < 256) ∧ (am_and z s = 0 ↔ ∀ j, 0 ≤ j → j < k → ¬ R j = 1 → ¬ am_and (am_shr z (W j)) 1 = 1)) (n - 0).toNat 0 0 (fun k s k0 k1 hs => by
    obtain ⟨hs, h1⟩ := hs
    have w := hW k k0 (by omega)
    unfold doF
    by_cases e : R k = 1
    · rw [ax_bt e, if_neg (by decide), ax_or0 hs.1 (by omega)]
      refine ⟨hs, h1.trans ⟨fun p j j0 j1 hj => ?_, fun p j j0 j1 hj => p j j0 (by omega) hj⟩⟩
      by_cases ej : j = k
      · rw [ej] at hj; exact absurd e hj
      · exact p j j0 (by omega) hj
    · rw [ax_bf e, if_pos rfl]
      obtain ⟨b1, -, -, b4, -⟩ := bi_or (f := W k) hs.1 hs.2 z0 z1 w.1 w.2
      refine ⟨b1, b4.trans ⟨fun ⟨p, q⟩ j j0 j1 hj => ?_, fun p => ⟨h1.mpr fun j j0 j1 hj => p j j0 (by omega) hj, p k k0 (by omega) e⟩⟩⟩
      by_cases ej : j = k
      · rw [ej]; exact q
      · exact h1.mp p j j0 (by omega) hj) ⟨by omega, ⟨fun _ j j0 j1 => by omega, fun _ => (and_z0 z0 z1).1⟩⟩
  rw [show (0 : Int) + ((n - 0).toNat : Int) = n by omega] at key
  exact key.2
/-- the search for the i-th -/
def sq (f : Int → Bool) (i : Int) : Nat → Int → Int → Int
  | 0, _, c => if i = -1 then c else -1
  | n + 1, z, c => if f z = true then (if c = i then z else sq f i n (z + 1) (c + 1)) else sq f i n (z + 1) c
theorem sq_congr {f g : Int → Bool} {i : Int} : ∀ (n : Nat) (z c : Int), (∀ j, z ≤ j → j < z + n → f j = g j) → sq f i n z c = sq g i n z c := by
  intro n
  induction n with
  | zero => intro z c _; rfl
  | succ n ih =>
    intro z c h
    show (if f z = true then (if c = i then z else sq f i n (z + 1) (c + 1)) else sq f i n (z + 1) c) = (if g z = true then (if c = i then z else sq g i n (z + 1) (c + 1)) else sq g i n (z + 1) c)
    rw [h z (by omega) (by omega), ih _ _ fun j h1 h2 => h j (by omega) (by omega), ih _ _ fun j h1 h2 => h j (by omega) (by omega)]
theorem sq_neg {f : Int → Bool} {i : Int} (hi : i < -1) : ∀ (n : Nat) (z c : Int), 0 ≤ c → sq f i n z c = -1 := by
  intro n
  induction n with
  | zero => intro z c _; exact if_neg (by omega)
  | succ n ih =>
    intro z c h
    show (if f z = true then (if c = i then z else sq f i n (z + 1) (c + 1)) else sq f i n (z + 1) c) = -1
    have hc : ¬ c = i := by omega
    rw [if_neg hc, ih (z + 1) (c + 1) (by omega), ih (z + 1) c h, ite_self]
theorem ax_loopS {X : Int → Int → Option (Int × am_M)} {f : Int → Bool} {n i : Int} (hs : ∀ z c, 0 ≤ z → z < n → 0 ≤ c → c ≤ z → X z c = if f z = true then (if c = i then some (z, M) else X (z + 1) (c + 1)) else X (z + 1) c) (he : ∀ c, X n c = some (if i = -1 then c else -1, M)) : ∀ (j : Nat) (z c : Int), 0 ≤ z → 0 ≤ c → c ≤ z → z + j = n → X z c = some (sq f i j z c, M) := by
  intro j
  induction j with
  | zero =>
    intro z c _ _ _ h
    have : z = n := by omega
    subst this
    exact he c
  | succ j ih =>
    intro z c z0 c0 c1 h
    rw [hs z c z0 (by omega) c0 c1, ih (z + 1) (c + 1) (by omega) (by omega) (by omega) (by omega), ih (z + 1) c (by omega) (by omega) (by omega) (by omega)]
    show _ = some (if f z = true then (if c = i then z else sq f i j (z + 1) (c + 1)) else sq f i j (z + 1) c, M)
    by_cases h1 : f z = true
    · rw [if_pos h1, if_pos h1]
      by_cases h2 : c = i
      · rw [if_pos h2, if_pos h2]
      · rw [if_neg h2, if_neg h2]
    · rw [if_neg h1, if_neg h1]
/-- the developers' loop -/
def csB (L : Int → Int) (T r w z : Int) : Bool := decide (am_and z r = r) && decide (am_and z w = 0) && ax_al (lcB L T z) (T - 0).toNat 0
theorem c_179s {i r w N : Int} (hK : ax_K M) (b : cg_B M) (hT : am_rd M 2 5 = T) (hL : ∀ j, 0 ≤ j → j < T → am_rd M 4 j = L j) (N0 : 0 ≤ N) (N1 : N ≤ 256) : am_Ex d 179 23 [(2, 442), am_N, (0, i), (0, r), (0, w), (0, N - 1), (0, 0), (0, 0)] [] M = some (sq (csB L T r w) i (N - 0).toNat 0 0, M) := by
  refine ax_loopS (X := fun z c => am_Ex d 179 23 [(2, 442), am_N, (0, i), (0, r), (0, w), (0, N - 1), (0, c), (0, z)] [] M) (n := N) (fun z c z0 z1 c0 c1 => ?_) (fun c => ?_) _ _ _ (by omega) (by omega) (by omega) (by omega)
  · have e46 : ∀ c, am_Ex d 179 46 [(2, 442), am_N, (0, i), (0, r), (0, w), (0, N - 1), (0, c), (0, z)] [] M = am_Ex d 179 23 [(2, 442), am_N, (0, i), (0, r), (0, w), (0, N - 1), (0, c), (0, z + 1)] [] M := fun c => by
      rw [aq_179_46, ax_w32 (by omega) (by omega), ax_let]
    show am_Ex d 179 23 [(2, 442), am_N, (0, i), (0, r), (0, w), (0, N - 1), (0, c), (0, z)] [] M = if csB L T r w z = true then (if c = i then some (z, M) else am_Ex d 179 23 [(2, 442), am_N, (0, i), (0, r), (0, w), (0, N - 1), (0, c + 1), (0, z + 1)] [] M) else am_Ex d 179 23 [(2, 442), am_N, (0, i), (0, r), (0, w), (0, N - 1), (0, c), (0, z + 1)] [] M
    rw [aq_179_23, if_pos (by omega)]
    unfold csB
    by_cases h1 : am_and z r = r
    · rw [if_pos h1, decide_eq_true h1, Bool.true_and]
      by_cases h2 : am_and z w = 0
      · rw [if_pos h2, decide_eq_true h2, Bool.true_and, show am_ob 442 7 = true from rfl, ax_gt, c_129 hK b hT hL, Option.bind_some]
        dsimp only []
        by_cases h3 : ax_al (lcB L T z) (T - 0).toNat 0 = true
        · rw [if_pos h3, if_neg (by decide), if_pos h3]
          by_cases h4 : c = i
          · rw [if_pos h4, if_pos h4]
          · rw [if_neg h4, if_neg h4, ax_w32 (by omega) (by omega), ax_let, e46]
        · rw [if_neg h3, if_pos rfl, if_neg h3, e46]
      · rw [if_neg h2, decide_eq_false h2, Bool.false_and, if_neg (by decide), e46]
    · rw [if_neg h1, decide_eq_false h1, Bool.false_and, Bool.false_and, if_neg (by decide), e46]
  · show am_Ex d 179 23 [(2, 442), am_N, (0, i), (0, r), (0, w), (0, N - 1), (0, c), (0, N)] [] M = _
    rw [aq_179_23, if_neg (by omega)]
    by_cases h : i = -1
    · rw [if_pos h, if_pos h]
    · rw [if_neg h, if_neg h]
/-- the model's -/
def dnB (W R : Int → Int) (x z k : Int) : Bool := if R k = 1 then decide (am_and (am_shr z (W k)) 1 = 1) else !(decide (am_and (am_shr z (W k)) 1 = 1)) || !(decide (x = 0))
def msB (L W R : Int → Int) (T n x z : Int) : Bool := ax_al (lcB L T z) (T - 0).toNat 0 && ax_al (dnB W R x z) (n - 0).toNat 0
theorem m_200 (hK : ax_K M) (hT : am_rd M 448 0 = T) (hn : am_rd M 448 6 = n) (T0 : 0 ≤ T) (T8 : T ≤ 8) (n0 : 0 ≤ n) (n8 : n ≤ 8) (z0 : 0 ≤ z) (z1 : z < 256) (hL : ∀ j, 0 ≤ j → j < T → am_rd M 448 (18 + j) = L j) (hW : ∀ j, 0 ≤ j → j < n → am_rd M 448 (38 + 2 * j) = W j) (hR : ∀ j, 0 ≤ j → j < n → am_rd M 448 (39 + 2 * j) = R j) : am_Call d 200 [(2, 447), (0, z), (0, x)] M = some (if msB L W R T n x z = true then 1 else 0, M) := by
  rw [aq_200]
  have keyB := ax_loopA (X := fun k => am_Ex d 200 26 [(2, 447), (0, z), (0, x), (0, k), am_N] [] M) (f := dnB W R x z) (E1 := some (1, M)) (E0 := some (0, M)) (n := n) (fun k k0 k1 => by
    have e66 : am_Ex d 200 66 [(2, 447), (0, z), (0, x), (0, k), am_N] [] M = am_Ex d 200 26 [(2, 447), (0, z), (0, x), (0, k + 1), am_N] [] M := by
      rw [aq_200_66, ax_w32 (by omega) (by omega), ax_let]
    show am_Ex d 200 26 [(2, 447), (0, z), (0, x), (0, k), am_N] [] M = if dnB W R x z k = true then am_Ex d 200 26 [(2, 447), (0, z), (0, x), (0, k + 1), am_N] [] M else some (0, M)
    rw [aq_200_26, show am_ob 447 11 = true from rfl, ax_gt, kr_447_0 hK, ax_a_448, ax_gi (by omega) (by omega), hn, if_pos k1, ax_w32 (x := 2 * k) (by omega) (by omega), ax_w32 (x := 38 + 2 * k) (by omega) (by omega), ax_a_448, ax_gi (by omega) (by omega), hW k k0 k1, m_65, Option.bind_some]
    dsimp only []
    rw [kr_447_0 hK, ax_w32 (x := 38 + 2 * k + 1) (by omega) (by omega), ax_a_448, ax_gi (by omega) (by omega), show 38 + 2 * k + 1 = 39 + 2 * k by omega, hR k k0 k1]
    unfold dnB
    by_cases h1 : R k = 1
    · rw [if_pos h1, if_pos h1]
      by_cases h2 : am_and (am_shr z (W k)) 1 = 1
      · rw [if_neg (by rw [ax_b0]; exact fun p => p h2), e66, decide_eq_true h2, if_pos rfl]
      · rw [if_pos (by rw [ax_b0]; exact h2), decide_eq_false h2, if_neg (by decide)]
    · rw [if_neg h1, if_neg h1]
      by_cases h2 : am_and (am_shr z (W k)) 1 = 1
      · rw [if_neg (by rw [ax_b0]; exact fun p => p h2), decide_eq_true h2]
        by_cases h3 : x = 0
        · rw [if_pos h3, decide_eq_true h3, if_neg (by decide)]
        · rw [if_neg h3, e66, decide_eq_false h3, if_pos (by decide)]
      · rw [if_pos (by rw [ax_b0]; exact h2), e66, decide_eq_false h2, Bool.not_false, Bool.true_or, if_pos rfl]) (by
    show am_Ex d 200 26 [(2, 447), (0, z), (0, x), (0, n), am_N] [] M = some (1, M)
    rw [aq_200_26, show am_ob 447 11 = true from rfl, ax_gt, kr_447_0 hK, ax_a_448, ax_gi (by omega) (by omega), hn, if_neg (Int.lt_irrefl n)])
  have kB := keyB (n - 0).toNat 0 (by omega) (by omega)
  have keyA := ax_loopA (X := fun t => am_Ex d 200 3 [(2, 447), (0, z), (0, x), (0, t), am_N] [] M) (f := lcB L T z) (E1 := am_Ex d 200 26 [(2, 447), (0, z), (0, x), (0, 0), am_N] [] M) (E0 := some (0, M)) (n := T) (fun t t0 t1 => by
    have e21 : am_Ex d 200 21 [(2, 447), (0, z), (0, x), (0, t), am_N] [] M = am_Ex d 200 3 [(2, 447), (0, z), (0, x), (0, t + 1), am_N] [] M := by
      rw [aq_200_21, ax_w32 (by omega) (by omega), ax_let]
    show am_Ex d 200 3 [(2, 447), (0, z), (0, x), (0, t), am_N] [] M = if lcB L T z t = true then am_Ex d 200 3 [(2, 447), (0, z), (0, x), (0, t + 1), am_N] [] M else some (0, M)
    rw [aq_200_3, show am_ob 447 11 = true from rfl, ax_gt, kr_447_0 hK, ax_a_448, ax_gi (by omega) (by omega), hT, if_pos t1, m_65, Option.bind_some]
    dsimp only []
    by_cases h1 : am_and (am_shr z t) 1 = 1
    · rw [if_neg (by rw [ax_b0]; exact fun p => p h1), m_160 hK hT T0 T8 z0 z1 hL, Option.bind_some]
      dsimp only []
      by_cases h2 : lds L T t ≠ 0 ∧ am_and (lds L T t) z = 0
      · rw [if_pos h2, if_pos rfl, if_neg (fun q => lcB_t.mp q ⟨h1, h2.1, h2.2⟩)]
      · rw [if_neg h2, if_neg (by decide), e21, if_pos (lcB_t.mpr fun q => h2 ⟨q.2.1, q.2.2⟩)]
    · rw [if_pos (by rw [ax_b0]; exact h1), e21, if_pos (lcB_t.mpr fun q => h1 q.1)]) (by
    show am_Ex d 200 3 [(2, 447), (0, z), (0, x), (0, T), am_N] [] M = _
    rw [aq_200_3, show am_ob 447 11 = true from rfl, ax_gt, kr_447_0 hK, ax_a_448, ax_gi (by omega) (by omega), hT, if_neg (Int.lt_irrefl T)])
  have kA := keyA (T - 0).toNat 0 (by omega) (by omega)
  refine kA.trans ?_
  unfold msB
  by_cases h1 : ax_al (lcB L T z) (T - 0).toNat 0 = true
  · rw [if_pos h1, h1, Bool.true_and]
    refine kB.trans ?_
    by_cases h2 : ax_al (dnB W R x z) (n - 0).toNat 0 = true
    · rw [if_pos h2, if_pos h2]
    · rw [if_neg h2, if_neg h2]
  · rw [if_neg h1, if_neg (fun q => h1 (Bool.and_eq_true_iff.mp q).1)]
theorem m_230s {i N : Int} (hK : ax_K M) (hT : am_rd M 448 0 = T) (hn : am_rd M 448 6 = n) (T0 : 0 ≤ T) (T8 : T ≤ 8) (n0 : 0 ≤ n) (n8 : n ≤ 8) (hN : am_shl 1 T = N) (N0 : 0 ≤ N) (N1 : N ≤ 256) (hL : ∀ j, 0 ≤ j → j < T → am_rd M 448 (18 + j) = L j) (hW : ∀ j, 0 ≤ j → j < n → am_rd M 448 (38 + 2 * j) = W j) (hR : ∀ j, 0 ≤ j → j < n → am_rd M 448 (39 + 2 * j) = R j) : am_Ex d 230 10 [(2, 447), (0, x), (0, i), (0, 0), (0, 0)] [] M = some (sq (msB L W R T n x) i (N - 0).toNat 0 0, M) := by
  refine ax_loopS (X := fun z c => am_Ex d 230 10 [(2, 447), (0, x), (0, i), (0, c), (0, z)] [] M) (n := N) (fun z c z0 z1 c0 c1 => ?_) (fun c => ?_) _ _ _ (by omega) (by omega) (by omega) (by omega)
  · have e30 : ∀ c, am_Ex d 230 30 [(2, 447), (0, x), (0, i), (0, c), (0, z)] [] M = am_Ex d 230 10 [(2, 447), (0, x), (0, i), (0, c), (0, z + 1)] [] M := fun c => by
      rw [aq_230_30, ax_w32 (by omega) (by omega), ax_let]
    show am_Ex d 230 10 [(2, 447), (0, x), (0, i), (0, c), (0, z)] [] M = if msB L W R T n x z = true then (if c = i then some (z, M) else am_Ex d 230 10 [(2, 447), (0, x), (0, i), (0, c + 1), (0, z + 1)] [] M) else am_Ex d 230 10 [(2, 447), (0, x), (0, i), (0, c), (0, z + 1)] [] M
    rw [aq_230_10, show am_ob 447 11 = true from rfl, ax_gt, kr_447_0 hK, ax_a_448, ax_gi (by omega) (by omega), hT, hN, if_pos z1, m_200 hK hT hn T0 T8 n0 n8 z0 (by omega) hL hW hR, Option.bind_some]
    dsimp only []
    by_cases h3 : msB L W R T n x z = true
    · rw [if_pos h3, if_neg (by decide), if_pos h3]
      by_cases h4 : c = i
      · rw [if_pos h4, if_pos h4]
      · rw [if_neg h4, if_neg h4, ax_w32 (by omega) (by omega), ax_let, e30]
    · rw [if_neg h3, if_pos rfl, if_neg h3, e30]
  · show am_Ex d 230 10 [(2, 447), (0, x), (0, i), (0, c), (0, N)] [] M = _
    rw [aq_230_10, show am_ob 447 11 = true from rfl, ax_gt, kr_447_0 hK, ax_a_448, ax_gi (by omega) (by omega), hT, hN, if_neg (Int.lt_irrefl N)]
    by_cases h : i = -1
    · rw [if_pos h, if_pos h]
    · rw [if_neg h, if_neg h]
end
