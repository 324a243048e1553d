/-! the model (447): the small ones -/
def mb_B (M : am_M) : Prop := (0 ≤ am_rd M 448 0 ∧ am_rd M 448 0 ≤ 8) ∧ (0 ≤ am_rd M 448 1 ∧ am_rd M 448 1 ≤ 6) ∧ (0 ≤ am_rd M 448 2 ∧ am_rd M 448 2 ≤ 6) ∧ (0 ≤ am_rd M 448 6 ∧ am_rd M 448 6 ≤ 8) ∧ (0 ≤ am_rd M 448 3 ∧ am_rd M 448 3 ≤ 4) ∧ (0 ≤ am_rd M 448 5 ∧ am_rd M 448 5 ≤ 30)
theorem ax_pwB : ∀ k : Fin 9, am_w32 (am_shl 1 (k.val : Int) - 1) = ((2 ^ k.val : Nat) : Int) - 1 ∧ ((2 ^ k.val : Nat) : Int) ≤ 256 ∧ 1 ≤ ((2 ^ k.val : Nat) : Int) := by decide +kernel
theorem ax_pw {T : Int} (h0 : 0 ≤ T) (h1 : T ≤ 8) : am_w32 (am_shl 1 T - 1) = ((2 ^ T.toNat : Nat) : Int) - 1 ∧ ((2 ^ T.toNat : Nat) : Int) ≤ 256 ∧ 1 ≤ ((2 ^ T.toNat : Nat) : Int) := by
  have h := ax_pwB ⟨T.toNat, by omega⟩
  have e : ((T.toNat : Nat) : Int) = T := Int.toNat_of_nonneg h0
  rw [show ((⟨T.toNat, by omega⟩ : Fin 9).val : Int) = T from e] at h
  exact h
/-- the number of bits -/
def ax_pc : Nat → Nat → Nat
  | 0, _ => 0
  | f + 1, x => x % 2 + ax_pc f (x / 2)
theorem ax_pc0 : ∀ f : Nat, ax_pc f 0 = 0 := by
  intro f
  induction f with
  | zero => rfl
  | succ f ih => show 0 % 2 + ax_pc f (0 / 2) = 0; rw [Nat.zero_div, ih]
theorem ax_pcl : ∀ (f x : Nat), ax_pc f x ≤ f := by
  intro f
  induction f with
  | zero => intro x; exact Nat.le_refl 0
  | succ f ih => intro x; show x % 2 + ax_pc f (x / 2) ≤ f + 1; have := ih (x / 2); omega
def ax_cn (x : Int) : Int := (ax_pc 8 x.toNat : Int)
theorem ax_cnr (x : Int) : 0 ≤ ax_cn x ∧ ax_cn x ≤ 8 := by unfold ax_cn; have := ax_pcl 8 x.toNat; omega
section
variable {M : am_M} {d : Nat}
theorem m_64 {v lo hi : Int} : am_Call d 64 [(0, v), (0, lo), (0, hi)] M = some (ax_b (lo ≤ v ∧ v ≤ hi), M) := by
  rw [aq_64]
  (unfold ax_b; (repeat' split) <;> first | rfl | (exfalso; omega))
theorem m_65 {x k : Int} : am_Call d 65 [(0, x), (0, k)] M = some (ax_b (am_and (am_shr x k) 1 = 1), M) := by
  rw [aq_65]
  (unfold ax_b; (repeat' split) <;> first | rfl | (exfalso; omega))
theorem m_66g : ∀ (f x : Nat) (s : Int), x < 2 ^ f → f ≤ 30 → 0 ≤ s → s + f ≤ 1000 → am_Ex d 66 5 [am_N, (0, s), (0, (x : Int))] [] M = some (s + (ax_pc f x : Int), M) := by
  intro f
  induction f with
  | zero =>
    intro x s hx _ _ _
    have : x = 0 := by simpa using hx
    subst this
    rw [aq_66_5]
    simp [ax_pc]
  | succ f ih =>
    intro x s hx hf h0 hs
    have hp : (2 : Nat) ^ (f + 1) ≤ 2 ^ 30 := Nat.pow_le_pow_right (by omega) hf
    have hx2 : x / 2 < 2 ^ f := by rw [Nat.pow_succ] at hx; omega
    rw [aq_66_5]
    by_cases h : x = 0
    · subst h
      rw [if_pos (by rfl), ax_pc0]
      simp
    · rw [if_neg (by omega)]
      have e1 : am_and (x : Int) 1 = ((x % 2 : Nat) : Int) := by
        rw [ax_and_nn (by omega) (by omega) (by omega)]
        simp [Nat.and_one_is_mod]
      have e2 : am_shr (x : Int) 1 = ((x / 2 : Nat) : Int) := by
        rw [ax_shr_nn (by omega) (by omega) (by omega) (by omega)]
        simp
      simp only [am_let, e1, e2]
      rw [ax_w32 (by omega) (by omega), ih (x / 2) _ hx2 (by omega) (by omega) (by omega)]
      show some (_, M) = some (s + ((x % 2 + ax_pc f (x / 2) : Nat) : Int), M)
      congr 2
      omega
theorem m_66 {x : Int} (h0 : 0 ≤ x) (h1 : x < 256) : am_Call d 66 [(0, x)] M = some (ax_cn x, M) := by
  have e := m_66g (M := M) (d := d) 8 x.toNat 0 (by omega) (by omega) (by omega) (by omega)
  rw [Int.toNat_of_nonneg h0] at e
  rw [aq_66, e]
  unfold ax_cn
  simp only [Int.zero_add]
theorem c_99B : ∀ k : Fin 256, (let x0 : Int := (k.val : Int); let v101 := am_w32 (x0 - (am_and (am_ushr x0 1) 1431655765)); let v102 := am_w32 ((am_and v101 858993459) + (am_and (am_ushr v101 2) 858993459)); let v103 := am_and (am_w32 (v102 + (am_ushr v102 4))) 252645135; let v104 := am_w32 (v103 + (am_ushr v103 8)); let v105 := am_w32 (v104 + (am_ushr v104 16)); am_and v105 63) = (ax_pc 8 k.val : Int) := by decide +kernel
theorem c_99 {x : Int} (h0 : 0 ≤ x) (h1 : x < 256) : am_Call d 99 [(0, x)] M = some (ax_cn x, M) := by
  have h := c_99B ⟨x.toNat, by omega⟩
  rw [aq_99]
  unfold ax_cn
  rw [← h]
  simp only [am_let, Int.toNat_of_nonneg h0]
theorem c_99x {x : Int} : ∃ r, am_Call d 99 [(0, x)] M = some (r, M) := by
  rw [aq_99]
  exact ⟨_, rfl⟩
theorem m_143 {t : Int} (hK : ax_K M) (b : mb_B M) : am_Call d 143 [(2, 447), (0, t)] M = some (ax_b (0 ≤ t ∧ t < am_rd M 448 0), M) := by
  obtain ⟨b1, b2, b3, b4, b5, b6⟩ := b
  rw [aq_143]
  simp (disch := first | assumption | omega) only [ax_gt, ax_gi, am_let, Option.bind_some, ax_gbl, ax_gb2, ax_gd, Int.reduceEq, Int.reduceNe, Int.reduceLT, Int.reduceLE, Int.reduceAdd, Int.reduceSub, Int.reduceMul, Int.reduceNeg, reduceIte, ite_true, ite_false, true_and, and_true, false_and, and_false, true_or, or_true, false_or, or_false, not_true_eq_false, not_false_eq_true, and_self, or_self, eq_self, ite_self, decide_true, decide_false, Bool.true_and, Bool.and_true, Bool.and_self, Bool.false_and, ax_rw, if_pos, if_neg, ax_w32, ax_o_447, ax_a_448, kr_447_0, m_64]
  rw [ax_bc (p := 0 ≤ t ∧ t ≤ am_rd M 448 0 - 1) (q := 0 ≤ t ∧ t < am_rd M 448 0) (by omega)]
theorem m_144 {t : Int} (hK : ax_K M) (b : mb_B M) : am_Call d 144 [(2, 447), (0, t)] M = some (ax_b (0 ≤ t ∧ t < am_rd M 448 1), M) := by
  obtain ⟨b1, b2, b3, b4, b5, b6⟩ := b
  rw [aq_144]
  simp (disch := first | assumption | omega) only [ax_gt, ax_gi, am_let, Option.bind_some, ax_gbl, ax_gb2, ax_gd, Int.reduceEq, Int.reduceNe, Int.reduceLT, Int.reduceLE, Int.reduceAdd, Int.reduceSub, Int.reduceMul, Int.reduceNeg, reduceIte, ite_true, ite_false, true_and, and_true, false_and, and_false, true_or, or_true, false_or, or_false, not_true_eq_false, not_false_eq_true, and_self, or_self, eq_self, ite_self, decide_true, decide_false, Bool.true_and, Bool.and_true, Bool.and_self, Bool.false_and, ax_rw, if_pos, if_neg, ax_w32, ax_o_447, ax_a_448, kr_447_0, m_64]
  rw [ax_bc (p := 0 ≤ t ∧ t ≤ am_rd M 448 1 - 1) (q := 0 ≤ t ∧ t < am_rd M 448 1) (by omega)]
theorem m_145 {x : Int} (hK : ax_K M) (b : mb_B M) : am_Call d 145 [(2, 447), (0, x)] M = some (ax_b (0 ≤ x ∧ x < ((2 ^ (am_rd M 448 0).toNat : Nat) : Int)), M) := by
  obtain ⟨b1, b2, b3, b4, b5, b6⟩ := b
  have hp := ax_pw b1.1 b1.2
  rw [aq_145]
  simp (disch := first | assumption | omega) only [ax_gt, ax_gi, am_let, Option.bind_some, ax_gbl, ax_gb2, ax_gd, Int.reduceEq, Int.reduceNe, Int.reduceLT, Int.reduceLE, Int.reduceAdd, Int.reduceSub, Int.reduceMul, Int.reduceNeg, reduceIte, ite_true, ite_false, true_and, and_true, false_and, and_false, true_or, or_true, false_or, or_false, not_true_eq_false, not_false_eq_true, and_self, or_self, eq_self, ite_self, decide_true, decide_false, Bool.true_and, Bool.and_true, Bool.and_self, Bool.false_and, ax_rw, if_pos, if_neg, ax_o_447, ax_a_448, kr_447_0, m_64, hp.1]
  rw [ax_bc (p := 0 ≤ x ∧ x ≤ ((2 ^ (am_rd M 448 0).toNat : Nat) : Int) - 1) (q := 0 ≤ x ∧ x < ((2 ^ (am_rd M 448 0).toNat : Nat) : Int)) (by omega)]
theorem m_196 {m : Int} (hK : ax_K M) (b : mb_B M) : am_Call d 196 [(2, 447), (0, m)] M = some (ax_b ((0 ≤ m ∧ m < am_rd M 448 1) ∧ am_rd M 448 (216 + m) = 0), M) := by
  have b' := b
  obtain ⟨b1, b2, b3, b4, b5, b6⟩ := b'
  rw [aq_196]
  by_cases h : 0 ≤ m ∧ m < am_rd M 448 1
  · simp (disch := first | assumption | omega) only [ax_gt, ax_gi, am_let, Option.bind_some, ax_gbl, ax_gb2, ax_gd, Int.reduceEq, Int.reduceNe, Int.reduceLT, Int.reduceLE, Int.reduceAdd, Int.reduceSub, Int.reduceMul, Int.reduceNeg, reduceIte, ite_true, ite_false, true_and, and_true, false_and, and_false, true_or, or_true, false_or, or_false, not_true_eq_false, not_false_eq_true, and_self, or_self, eq_self, ite_self, decide_true, decide_false, Bool.true_and, Bool.and_true, Bool.and_self, Bool.false_and, ax_rw, if_pos, if_neg, ax_w32, ax_o_447, ax_a_448, kr_447_0, m_144, ax_b0]
    by_cases h2 : am_rd M 448 (216 + m) = 0 <;> simp [h, h2, ax_b]
  · simp (disch := first | assumption | omega) only [ax_gt, ax_gi, am_let, Option.bind_some, ax_gbl, ax_gb2, ax_gd, Int.reduceEq, Int.reduceNe, Int.reduceLT, Int.reduceLE, Int.reduceAdd, Int.reduceSub, Int.reduceMul, Int.reduceNeg, reduceIte, ite_true, ite_false, true_and, and_true, false_and, and_false, true_or, or_true, false_or, or_false, not_true_eq_false, not_false_eq_true, and_self, or_self, eq_self, ite_self, decide_true, decide_false, Bool.true_and, Bool.and_true, Bool.and_self, Bool.false_and, ax_rw, if_pos, if_neg, ax_w32, ax_o_447, ax_a_448, kr_447_0, m_144, ax_b0]
    rw [ax_bf (by omega)]
theorem m_225 {m t : Int} (hK : ax_K M) (b : mb_B M) : am_Call d 225 [(2, 447), (0, m), (0, t)] M = some (ax_b (((0 ≤ m ∧ m < am_rd M 448 1) ∧ am_rd M 448 (216 + m) = 0) ∧ (0 ≤ t ∧ t < am_rd M 448 0) ∧ ¬ am_rd M 448 (210 + m) = t), M) := by
  have b' := b
  obtain ⟨b1, b2, b3, b4, b5, b6⟩ := b'
  rw [aq_225]
  by_cases h : (0 ≤ m ∧ m < am_rd M 448 1) ∧ am_rd M 448 (216 + m) = 0
  · simp (disch := first | assumption | omega) only [ax_gt, ax_gi, am_let, Option.bind_some, ax_gbl, ax_gb2, ax_gd, Int.reduceEq, Int.reduceNe, Int.reduceLT, Int.reduceLE, Int.reduceAdd, Int.reduceSub, Int.reduceMul, Int.reduceNeg, reduceIte, ite_true, ite_false, true_and, and_true, false_and, and_false, true_or, or_true, false_or, or_false, not_true_eq_false, not_false_eq_true, and_self, or_self, eq_self, ite_self, decide_true, decide_false, Bool.true_and, Bool.and_true, Bool.and_self, Bool.false_and, ax_rw, if_pos, if_neg, ax_w32, ax_o_447, ax_a_448, kr_447_0, m_196, m_143, ax_b0]
    by_cases h2 : 0 ≤ t ∧ t < am_rd M 448 0
    · by_cases h3 : am_rd M 448 (210 + m) = t <;> simp [h, h2, h3, ax_b]
    · simp [h2, ax_b]
  · simp (disch := first | assumption | omega) only [ax_gt, ax_gi, am_let, Option.bind_some, ax_gbl, ax_gb2, ax_gd, Int.reduceEq, Int.reduceNe, Int.reduceLT, Int.reduceLE, Int.reduceAdd, Int.reduceSub, Int.reduceMul, Int.reduceNeg, reduceIte, ite_true, ite_false, true_and, and_true, false_and, and_false, true_or, or_true, false_or, or_false, not_true_eq_false, not_false_eq_true, and_self, or_self, eq_self, ite_self, decide_true, decide_false, Bool.true_and, Bool.and_true, Bool.and_self, Bool.false_and, ax_rw, if_pos, if_neg, ax_w32, ax_o_447, ax_a_448, kr_447_0, m_196, m_143, ax_b0]
    rw [ax_bf (by omega)]
theorem m_87 {v lo hi : Int} (h1 : -2147483648 ≤ v) (h2 : v < 2147483648) : am_Call d 87 [(1, v), (0, lo), (0, hi)] M = some (if v < lo then lo else if v ≤ hi then v else hi, M) := by
  rw [aq_87, ax_w32 h1 h2]
  unfold am_cmp
  (repeat' split) <;> first | rfl | (exfalso; omega)
theorem ax_rem {x y : Int} (h1 : 0 ≤ x) (h2 : x < 2147483648) (h3 : 0 < y) (h4 : y < 2147483648) : am_rem x y = x % y := by
  unfold am_rem
  have e : ∀ n : Nat, nI n = Int32.ofNat n := fun n => by first | rfl | (unfold nI; rfl)
  rw [ax_nat h1, ax_nat (Int.le_of_lt h3), ax_ofN, ax_ofN, ← e, ← e, pk_rem (by omega) (by omega) (by omega), nI_toInt (Nat.lt_of_le_of_lt (Nat.mod_le _ _) (by omega))]
  rw [Int.natCast_emod]
theorem m_92 {k : Int} (hK : ax_K M) (h0 : 0 ≤ am_rd M 448 223) (h1 : am_rd M 448 223 < 30293) (hk : 0 < k) (hk2 : k < 100) : am_Call d 92 [(2, 447), (0, k)] M = some (am_rd M 448 223 % k, am_wr M 448 223 ((am_rd M 448 223 * 281 + 179) % 30293)) := by
  have hne : ¬ k = 0 := by omega
  rw [aq_92]
  simp (disch := first | assumption | omega) only [ax_gt, ax_gi, am_let, Option.bind_some, ax_gbl, ax_gb2, ax_gd, Int.reduceEq, Int.reduceNe, Int.reduceLT, Int.reduceLE, Int.reduceAdd, Int.reduceSub, Int.reduceMul, Int.reduceNeg, reduceIte, ite_true, ite_false, true_and, and_true, false_and, and_false, true_or, or_true, false_or, or_false, not_true_eq_false, not_false_eq_true, and_self, or_self, eq_self, ite_self, decide_true, decide_false, Bool.true_and, Bool.and_true, Bool.and_self, Bool.false_and, ax_rw, if_pos, if_neg, ax_w32, ax_o_447, ax_a_448, kr_447_0, ax_rem, hne]
theorem m_91 (hK : ax_K M) (b : mb_B M) (hf : ∀ m, 0 ≤ m → m < 6 → 0 ≤ am_rd M 448 (216 + m) ∧ am_rd M 448 (216 + m) ≤ 1) : am_Call d 91 [(2, 447)] M = some (ax_fo (fun m s => s + am_rd M 448 (216 + m)) (am_rd M 448 1 - 0).toNat 0 0, M) := by
  obtain ⟨b1, b2, b3, b4, b5, b6⟩ := b
  rw [aq_91]
  refine ax_loop (X := fun k s => am_Ex d 91 5 [(2, 447), (0, s), (0, k)] [] M) (E := fun s => some (s, M)) (n := am_rd M 448 1) (fun k s => 0 ≤ k ∧ 0 ≤ s ∧ s ≤ k) ?_ ?_ _ _ _ (by omega) (by omega)
  · intro k a hk hl
    have := hf k (by omega) (by omega)
    constructor
    · show am_Ex d 91 5 _ _ _ = _
      rw [aq_91_5]
      simp (disch := first | assumption | omega) only [ax_gt, ax_gi, am_let, Option.bind_some, ax_gbl, ax_gb2, ax_gd, Int.reduceEq, Int.reduceNe, Int.reduceLT, Int.reduceLE, Int.reduceAdd, Int.reduceSub, Int.reduceMul, Int.reduceNeg, reduceIte, ite_true, ite_false, true_and, and_true, false_and, and_false, true_or, or_true, false_or, or_false, not_true_eq_false, not_false_eq_true, and_self, or_self, eq_self, ite_self, decide_true, decide_false, Bool.true_and, Bool.and_true, Bool.and_self, Bool.false_and, ax_rw, if_pos, if_neg, ax_w32, ax_o_447, ax_a_448, kr_447_0]
    · omega
  · intro a ha
    show am_Ex d 91 5 _ _ _ = _
    rw [aq_91_5]
    simp (disch := first | assumption | omega) only [ax_gt, ax_gi, am_let, Option.bind_some, ax_gbl, ax_gb2, ax_gd, Int.reduceEq, Int.reduceNe, Int.reduceLT, Int.reduceLE, Int.reduceAdd, Int.reduceSub, Int.reduceMul, Int.reduceNeg, reduceIte, ite_true, ite_false, true_and, and_true, false_and, and_false, true_or, or_true, false_or, or_false, not_true_eq_false, not_false_eq_true, and_self, or_self, eq_self, ite_self, decide_true, decide_false, Bool.true_and, Bool.and_true, Bool.and_self, Bool.false_and, ax_rw, if_pos, if_neg, ax_w32, ax_o_447, ax_a_448, kr_447_0]
theorem m_146 {w : Int} (hK : ax_K M) (b : mb_B M) : am_Call d 146 [(2, 447), (0, w)] M = if ¬ (1 ≤ w ∧ w ≤ 99) ∨ am_rd M 448 0 = 8 then some (-1, M) else some (am_rd M 448 0, am_wr (am_wr M 448 (10 + am_rd M 448 0) w) 448 0 (am_rd M 448 0 + 1)) := by
  obtain ⟨b1, b2, b3, b4, b5, b6⟩ := b
  rw [aq_146]
  by_cases h : 1 ≤ w ∧ w ≤ 99
  · by_cases h2 : am_rd M 448 0 = 8
    · simp (disch := first | assumption | omega) only [ax_gt, ax_gi, am_let, Option.bind_some, ax_gbl, ax_gb2, ax_gd, Int.reduceEq, Int.reduceNe, Int.reduceLT, Int.reduceLE, Int.reduceAdd, Int.reduceSub, Int.reduceMul, Int.reduceNeg, reduceIte, ite_true, ite_false, true_and, and_true, false_and, and_false, true_or, or_true, false_or, or_false, not_true_eq_false, not_false_eq_true, and_self, or_self, eq_self, ite_self, decide_true, decide_false, Bool.true_and, Bool.and_true, Bool.and_self, Bool.false_and, ax_rw, if_pos, if_neg, ax_w32, ax_o_447, ax_a_448, kr_447_0, m_64, ax_b0]
    · simp (disch := first | assumption | omega) only [ax_gt, ax_gi, am_let, Option.bind_some, ax_gbl, ax_gb2, ax_gd, Int.reduceEq, Int.reduceNe, Int.reduceLT, Int.reduceLE, Int.reduceAdd, Int.reduceSub, Int.reduceMul, Int.reduceNeg, reduceIte, ite_true, ite_false, true_and, and_true, false_and, and_false, true_or, or_true, false_or, or_false, not_true_eq_false, not_false_eq_true, and_self, or_self, eq_self, ite_self, decide_true, decide_false, Bool.true_and, Bool.and_true, Bool.and_self, Bool.false_and, ax_rw, if_pos, if_neg, ax_w32, ax_o_447, ax_a_448, kr_447_0, m_64, ax_b0]
  · simp (disch := first | assumption | omega) only [ax_gt, ax_gi, am_let, Option.bind_some, ax_gbl, ax_gb2, ax_gd, Int.reduceEq, Int.reduceNe, Int.reduceLT, Int.reduceLE, Int.reduceAdd, Int.reduceSub, Int.reduceMul, Int.reduceNeg, reduceIte, ite_true, ite_false, true_and, and_true, false_and, and_false, true_or, or_true, false_or, or_false, not_true_eq_false, not_false_eq_true, and_self, or_self, eq_self, ite_self, decide_true, decide_false, Bool.true_and, Bool.and_true, Bool.and_self, Bool.false_and, ax_rw, if_pos, if_neg, ax_w32, ax_o_447, ax_a_448, kr_447_0, m_64, ax_b0]
theorem m_148 {x : Int} (hK : ax_K M) : am_Call d 148 [(2, 447), (0, x)] M = if 0 ≤ x ∧ x ≤ 8 then some (1, am_wr M 448 7 x) else some (0, M) := by
  rw [aq_148]
  by_cases h : 0 ≤ x ∧ x ≤ 8
  · simp (disch := first | assumption | omega) only [ax_gt, ax_gi, am_let, Option.bind_some, ax_gbl, ax_gb2, ax_gd, Int.reduceEq, Int.reduceNe, Int.reduceLT, Int.reduceLE, Int.reduceAdd, Int.reduceSub, Int.reduceMul, Int.reduceNeg, reduceIte, ite_true, ite_false, true_and, and_true, false_and, and_false, true_or, or_true, false_or, or_false, not_true_eq_false, not_false_eq_true, and_self, or_self, eq_self, ite_self, decide_true, decide_false, Bool.true_and, Bool.and_true, Bool.and_self, Bool.false_and, ax_rw, if_pos, if_neg, ax_w32, ax_o_447, ax_a_448, kr_447_0, m_64, ax_b0]
  · simp (disch := first | assumption | omega) only [ax_gt, ax_gi, am_let, Option.bind_some, ax_gbl, ax_gb2, ax_gd, Int.reduceEq, Int.reduceNe, Int.reduceLT, Int.reduceLE, Int.reduceAdd, Int.reduceSub, Int.reduceMul, Int.reduceNeg, reduceIte, ite_true, ite_false, true_and, and_true, false_and, and_false, true_or, or_true, false_or, or_false, not_true_eq_false, not_false_eq_true, and_self, or_self, eq_self, ite_self, decide_true, decide_false, Bool.true_and, Bool.and_true, Bool.and_self, Bool.false_and, ax_rw, if_pos, if_neg, ax_w32, ax_o_447, ax_a_448, kr_447_0, m_64, ax_b0]
theorem m_150 {x : Int} (hK : ax_K M) : am_Call d 150 [(2, 447), (0, x)] M = if 0 ≤ x ∧ x ≤ am_rd M 447 3 then some (x, am_wr M 447 3 x) else some (-1, M) := by
  rw [aq_150]
  by_cases h : 0 ≤ x ∧ x ≤ am_rd M 447 3
  · simp (disch := first | assumption | omega) only [ax_gt, ax_gi, am_let, Option.bind_some, ax_gbl, ax_gb2, ax_gd, Int.reduceEq, Int.reduceNe, Int.reduceLT, Int.reduceLE, Int.reduceAdd, Int.reduceSub, Int.reduceMul, Int.reduceNeg, reduceIte, ite_true, ite_false, true_and, and_true, false_and, and_false, true_or, or_true, false_or, or_false, not_true_eq_false, not_false_eq_true, and_self, or_self, eq_self, ite_self, decide_true, decide_false, Bool.true_and, Bool.and_true, Bool.and_self, Bool.false_and, ax_rw, if_pos, if_neg, ax_w32, ax_o_447, ax_a_448, kr_447_0, m_64, ax_b0]
  · simp (disch := first | assumption | omega) only [ax_gt, ax_gi, am_let, Option.bind_some, ax_gbl, ax_gb2, ax_gd, Int.reduceEq, Int.reduceNe, Int.reduceLT, Int.reduceLE, Int.reduceAdd, Int.reduceSub, Int.reduceMul, Int.reduceNeg, reduceIte, ite_true, ite_false, true_and, and_true, false_and, and_false, true_or, or_true, false_or, or_false, not_true_eq_false, not_false_eq_true, and_self, or_self, eq_self, ite_self, decide_true, decide_false, Bool.true_and, Bool.and_true, Bool.and_self, Bool.false_and, ax_rw, if_pos, if_neg, ax_w32, ax_o_447, ax_a_448, kr_447_0, m_64, ax_b0]
theorem m_156 {x : Int} (hK : ax_K M) (b : mb_B M) : am_Call d 156 [(2, 447), (0, x)] M = if x = -1 ∨ (0 ≤ x ∧ x < am_rd M 448 3) then some (1, am_wr M 448 4 x) else some (0, M) := by
  obtain ⟨b1, b2, b3, b4, b5, b6⟩ := b
  rw [aq_156]
  simp only [aq_156_16]
  by_cases h : x = -1
  · simp (disch := first | assumption | omega) only [ax_gt, ax_gi, am_let, Option.bind_some, ax_gbl, ax_gb2, ax_gd, Int.reduceEq, Int.reduceNe, Int.reduceLT, Int.reduceLE, Int.reduceAdd, Int.reduceSub, Int.reduceMul, Int.reduceNeg, reduceIte, ite_true, ite_false, true_and, and_true, false_and, and_false, true_or, or_true, false_or, or_false, not_true_eq_false, not_false_eq_true, and_self, or_self, eq_self, ite_self, decide_true, decide_false, Bool.true_and, Bool.and_true, Bool.and_self, Bool.false_and, ax_rw, if_pos, if_neg, ax_w32, ax_o_447, ax_a_448, kr_447_0, m_64, ax_b0]
  · by_cases h2 : 0 ≤ x ∧ x < am_rd M 448 3
    · simp (disch := first | assumption | omega) only [ax_gt, ax_gi, am_let, Option.bind_some, ax_gbl, ax_gb2, ax_gd, Int.reduceEq, Int.reduceNe, Int.reduceLT, Int.reduceLE, Int.reduceAdd, Int.reduceSub, Int.reduceMul, Int.reduceNeg, reduceIte, ite_true, ite_false, true_and, and_true, false_and, and_false, true_or, or_true, false_or, or_false, not_true_eq_false, not_false_eq_true, and_self, or_self, eq_self, ite_self, decide_true, decide_false, Bool.true_and, Bool.and_true, Bool.and_self, Bool.false_and, ax_rw, if_pos, if_neg, ax_w32, ax_o_447, ax_a_448, kr_447_0, m_64, ax_b0]
    · simp (disch := first | assumption | omega) only [ax_gt, ax_gi, am_let, Option.bind_some, ax_gbl, ax_gb2, ax_gd, Int.reduceEq, Int.reduceNe, Int.reduceLT, Int.reduceLE, Int.reduceAdd, Int.reduceSub, Int.reduceMul, Int.reduceNeg, reduceIte, ite_true, ite_false, true_and, and_true, false_and, and_false, true_or, or_true, false_or, or_false, not_true_eq_false, not_false_eq_true, and_self, or_self, eq_self, ite_self, decide_true, decide_false, Bool.true_and, Bool.and_true, Bool.and_self, Bool.false_and, ax_rw, if_pos, if_neg, ax_w32, ax_o_447, ax_a_448, kr_447_0, m_64, ax_b0]
theorem m_192 {f t : Int} (hK : ax_K M) (b : mb_B M) : am_Call d 192 [(2, 447), (0, f), (0, t)] M = if ((0 ≤ f ∧ f < am_rd M 448 0) ∧ (0 ≤ t ∧ t < am_rd M 448 0)) ∧ ¬ f = t ∧ ¬ am_and (am_shr (am_rd M 448 (18 + f)) t) 1 = 1 then some (1, am_wr M 448 (18 + f) (am_or (am_rd M 448 (18 + f)) (am_shl 1 t))) else some (0, M) := by
  have b' := b
  obtain ⟨b1, b2, b3, b4, b5, b6⟩ := b'
  rw [aq_192]
  by_cases h1 : 0 ≤ f ∧ f < am_rd M 448 0
  · by_cases h2 : 0 ≤ t ∧ t < am_rd M 448 0
    · simp (disch := first | assumption | omega) only [ax_gt, ax_gi, am_let, Option.bind_some, ax_gbl, ax_gb2, ax_gd, Int.reduceEq, Int.reduceNe, Int.reduceLT, Int.reduceLE, Int.reduceAdd, Int.reduceSub, Int.reduceMul, Int.reduceNeg, reduceIte, ite_true, ite_false, true_and, and_true, false_and, and_false, true_or, or_true, false_or, or_false, not_true_eq_false, not_false_eq_true, and_self, or_self, eq_self, ite_self, decide_true, decide_false, Bool.true_and, Bool.and_true, Bool.and_self, Bool.false_and, ax_rw, if_pos, if_neg, ax_w32, ax_o_447, ax_a_448, kr_447_0, m_143, m_65, ax_b0]
      by_cases h3 : f = t
      · simp [h3]
      · by_cases h4 : am_and (am_shr (am_rd M 448 (18 + f)) t) 1 = 1 <;> simp [h1, h2, h3, h4]
    · simp (disch := first | assumption | omega) only [ax_gt, ax_gi, am_let, Option.bind_some, ax_gbl, ax_gb2, ax_gd, Int.reduceEq, Int.reduceNe, Int.reduceLT, Int.reduceLE, Int.reduceAdd, Int.reduceSub, Int.reduceMul, Int.reduceNeg, reduceIte, ite_true, ite_false, true_and, and_true, false_and, and_false, true_or, or_true, false_or, or_false, not_true_eq_false, not_false_eq_true, and_self, or_self, eq_self, ite_self, decide_true, decide_false, Bool.true_and, Bool.and_true, Bool.and_self, Bool.false_and, ax_rw, if_pos, if_neg, ax_w32, ax_o_447, ax_a_448, kr_447_0, m_143, m_65, ax_b0]
  · simp (disch := first | assumption | omega) only [ax_gt, ax_gi, am_let, Option.bind_some, ax_gbl, ax_gb2, ax_gd, Int.reduceEq, Int.reduceNe, Int.reduceLT, Int.reduceLE, Int.reduceAdd, Int.reduceSub, Int.reduceMul, Int.reduceNeg, reduceIte, ite_true, ite_false, true_and, and_true, false_and, and_false, true_or, or_true, false_or, or_false, not_true_eq_false, not_false_eq_true, and_self, or_self, eq_self, ite_self, decide_true, decide_false, Bool.true_and, Bool.and_true, Bool.and_self, Bool.false_and, ax_rw, if_pos, if_neg, ax_w32, ax_o_447, ax_a_448, kr_447_0, m_143, m_65, ax_b0]
theorem m_193 {x : Int} (hK : ax_K M) (b : mb_B M) : am_Call d 193 [(2, 447), (0, x)] M = if (¬ (0 ≤ x ∧ x < ((2 ^ (am_rd M 448 0).toNat : Nat) : Int)) ∨ x = 0) ∨ am_rd M 448 2 = 6 then some (-1, M) else some (am_rd M 448 2, am_wr (am_wr M 448 (32 + am_rd M 448 2) x) 448 2 (am_rd M 448 2 + 1)) := by
  have b' := b
  obtain ⟨b1, b2, b3, b4, b5, b6⟩ := b'
  rw [aq_193]
  simp (disch := first | assumption | omega) only [ax_gt, ax_gi, am_let, Option.bind_some, ax_gbl, ax_gb2, ax_gd, Int.reduceEq, Int.reduceNe, Int.reduceLT, Int.reduceLE, Int.reduceAdd, Int.reduceSub, Int.reduceMul, Int.reduceNeg, reduceIte, ite_true, ite_false, true_and, and_true, false_and, and_false, true_or, or_true, false_or, or_false, not_true_eq_false, not_false_eq_true, and_self, or_self, eq_self, ite_self, decide_true, decide_false, Bool.true_and, Bool.and_true, Bool.and_self, Bool.false_and, ax_rw, if_pos, if_neg, ax_w32, ax_o_447, ax_a_448, kr_447_0, m_145, ax_b0]
  by_cases h1 : 0 ≤ x ∧ x < ((2 ^ (am_rd M 448 0).toNat : Nat) : Int)
  · by_cases h2 : x = 0
    · simp [h2]
    · by_cases h3 : am_rd M 448 2 = 6
      · simp [h3]
      · simp (disch := first | assumption | omega) only [ax_gt, ax_gi, am_let, Option.bind_some, ax_gbl, ax_gb2, ax_gd, Int.reduceEq, Int.reduceNe, Int.reduceLT, Int.reduceLE, Int.reduceAdd, Int.reduceSub, Int.reduceMul, Int.reduceNeg, reduceIte, ite_true, ite_false, true_and, and_true, false_and, and_false, true_or, or_true, false_or, or_false, not_true_eq_false, not_false_eq_true, and_self, or_self, eq_self, ite_self, decide_true, decide_false, Bool.true_and, Bool.and_true, Bool.and_self, Bool.false_and, ax_rw, if_pos, if_neg, ax_w32, ax_o_447, ax_a_448, kr_447_0, h1, h2, h3]
  · rw [if_pos h1, if_pos (Or.inl (Or.inl h1))]
end
