/-! feed: four bytes a number -/
def u8 (x k : Int) : Int := am_u16 (am_u16 (am_and (am_ushr x k) 255))
def s8 (x k : Int) : Int := am_i8 (am_i8 (am_shr x k))
theorem u16_B : ∀ k : Fin 256, am_u16 (am_u16 (k.val : Int)) = (k.val : Int) := by decide +kernel
theorem i8_T (v : Int32) : am_i8 (am_i8 v.toInt) = v.toInt8.toInt := by
  unfold am_i8
  rw [Int32.ofInt_toInt, Int32.ofInt_toInt]
  simp
theorem by8 (y : Int32) (n : Nat) (hn : n ≤ 24) (w : BitVec 32) (e : w = y.toBitVec.sshiftRight n) : w.signExtend 8 = y.toBitVec.extractLsb' n 8 := by
  subst e
  apply BitVec.eq_of_getLsbD_eq
  intro i hi
  rw [BitVec.getLsbD_signExtend, BitVec.getLsbD_sshiftRight, BitVec.getLsbD_extractLsb']
  simp [hi, show i < 32 by omega, show ¬ 32 ≤ i by omega, show n + i < 32 by omega]
theorem bu8 (y : BitVec 32) (n : Nat) : ((y >>> n) &&& 255#32) = (y.extractLsb' n 8).setWidth 32 := by
  apply BitVec.eq_of_getLsbD_eq
  intro i hi
  have h : (255#32).getLsbD i = decide (i < 8) := by
    have : ∀ i : Fin 32, (255#32).getLsbD i.val = decide (i.val < 8) := by decide
    exact this ⟨i, hi⟩
  rw [BitVec.getLsbD_and, BitVec.getLsbD_ushiftRight, BitVec.getLsbD_setWidth, BitVec.getLsbD_extractLsb', h]
  by_cases h8 : i < 8
  · simp [hi, h8]
  · simp [hi, h8]
theorem s8_k (x : Int) {n : Nat} (hn : n = 24 ∨ n = 16 ∨ n = 8 ∨ n = 0) : s8 x (n : Int) = ((Int32.ofInt x).toBitVec.extractLsb' n 8).toInt := by
  unfold s8 am_shr
  rw [i8_T]
  show ((_ : Int32).toBitVec.signExtend 8).toInt = _
  rw [by8 (Int32.ofInt x) n (by omega) _ ?_]
  rcases hn with rfl | rfl | rfl | rfl <;> rfl
theorem u8_k (x : Int) {n : Nat} (hn : n = 24 ∨ n = 16 ∨ n = 8 ∨ n = 0) : u8 x (n : Int) = (((Int32.ofInt x).toBitVec.extractLsb' n 8).toNat : Int) := by
  have hb := ((Int32.ofInt x).toBitVec.extractLsb' n 8).isLt
  have h : am_and (am_ushr x (n : Int)) 255 = (((Int32.ofInt x).toBitVec.extractLsb' n 8).toNat : Int) := by
    unfold am_and am_ushr
    rw [Int32.ofInt_toInt]
    have q : ((((Int32.ofInt x).toUInt32 >>> ((Int32.ofInt (n : Int)).toUInt32 &&& Int32.toUInt32 31)).toInt32 &&& Int32.ofInt 255)).toBitVec = ((Int32.ofInt x).toBitVec.extractLsb' n 8).setWidth 32 := by
      rw [← bu8]
      rcases hn with rfl | rfl | rfl | rfl <;> rfl
    show BitVec.toInt _ = _
    rw [q, BitVec.toInt_eq_toNat_cond, BitVec.toNat_setWidth]
    have : ((Int32.ofInt x).toBitVec.extractLsb' n 8).toNat % 2 ^ 32 = ((Int32.ofInt x).toBitVec.extractLsb' n 8).toNat := Nat.mod_eq_of_lt (by omega)
    rw [this, if_pos (by omega)]
  unfold u8
  rw [h]
  exact u16_B ⟨_, hb⟩
theorem us8 (x : Int) {k : Int} (hk : k = 24 ∨ k = 16 ∨ k = 8 ∨ k = 0) : u8 x k = s8 x k % 256 ∧ -128 ≤ s8 x k ∧ s8 x k < 128 := by
  have e1 := s8_k x (n := k.toNat) (by omega)
  have e2 := u8_k x (n := k.toNat) (by omega)
  rw [Int.toNat_of_nonneg (by omega)] at e1 e2
  have hb := ((Int32.ofInt x).toBitVec.extractLsb' k.toNat 8).isLt
  have h := BitVec.toInt_eq_toNat_cond ((Int32.ofInt x).toBitVec.extractLsb' k.toNat 8)
  rw [e1, e2, h]
  split <;> omega
section
variable {M : am_M} {d : Nat} {x n : Int}
theorem c_60s {k : Int} (hK : ax_K M) (hn : am_rd M 1 8 = n) (n0 : 0 ≤ n) (n1 : n < 300) (k0 : 0 ≤ k) (k1 : k ≤ 24) : am_Ex d 60 3 [(2, 1), (0, x), (0, k)] [] M = am_Ex d 60 3 [(2, 1), (0, x), (0, k - 8)] [] (am_wr (am_wr M 419 n (u8 x k)) 1 8 (n + 1)) := by
  have a0 : am_ia 419 = true := rfl
  have l0 : am_ln 419 = 300 := rfl
  have w1 : am_w32 (n + 1) = n + 1 := ax_w32 (by omega) (by omega)
  have w2 : am_w32 (k + (-8)) = k - 8 := by rw [ax_w32 (by omega) (by omega)]; omega
  rw [aq_60_3, if_neg (by omega), kr_1_7 hK, hn, a0, l0, if_neg (by omega), if_pos (by omega)]
  simp (disch := first | assumption | omega) only [ax_gt, ax_gi, Option.bind_some, ax_gbl, ax_gb2, ax_gd, Int.reduceEq, Int.reduceNe, Int.reduceLT, Int.reduceLE, Int.reduceAdd, Int.reduceSub, Int.reduceMul, Int.reduceNeg, reduceIte, ite_true, ite_false, true_and, and_true, false_and, and_false, true_or, or_true, false_or, or_false, not_true_eq_false, not_false_eq_true, and_self, or_self, eq_self, ite_self, decide_true, decide_false, Bool.true_and, Bool.and_true, Bool.and_self, Bool.false_and, Int.add_zero, Int.zero_add, ax_o_1, kr_1_0, kr_1_1, kr_1_2, kr_1_3, kr_1_4, kr_1_5, kr_1_6, kr_1_7, kr_1_9, kr_1_10, kr_1_11, kr_1_12, kr_1_13, kr_1_14, ax_a_419]
  rw [ax_let]
  simp (disch := first | assumption | omega) only [Int.reduceEq, Int.reduceNe, Int.reduceLT, Int.reduceLE, Int.reduceAdd, Int.reduceSub, Int.reduceMul, Int.reduceNeg, reduceIte, ite_true, ite_false, true_and, and_true, false_and, and_false, true_or, or_true, false_or, or_false, not_true_eq_false, not_false_eq_true, and_self, or_self, eq_self, ite_self, decide_true, decide_false, Bool.true_and, Bool.and_true, Bool.and_self, Bool.false_and, Int.add_zero, Int.zero_add, ax_rw, if_pos, if_neg, hn, w1]
  rw [ax_let, aq_60_32, w2, ax_let]
  rfl
theorem m_70s {k : Int} (hK : ax_K M) (hn : am_rd M 447 3 = n) (n0 : 0 ≤ n) (n1 : n < 300) (k0 : 0 ≤ k) (k1 : k ≤ 24) : am_Ex d 70 3 [(2, 447), (0, x), (0, k)] [] M = am_Ex d 70 3 [(2, 447), (0, x), (0, k - 8)] [] (am_wr (am_wr M 450 n (s8 x k)) 447 3 (n + 1)) := by
  have w1 : am_w32 (n + 1) = n + 1 := ax_w32 (by omega) (by omega)
  have w2 : am_w32 (k - 8) = k - 8 := by rw [ax_w32 (by omega) (by omega)]
  rw [aq_70_3, if_neg (by omega), kr_447_2 hK, hn]
  simp (disch := first | assumption | omega) only [ax_gt, ax_gi, Option.bind_some, ax_gbl, ax_gb2, ax_gd, Int.reduceEq, Int.reduceNe, Int.reduceLT, Int.reduceLE, Int.reduceAdd, Int.reduceSub, Int.reduceMul, Int.reduceNeg, reduceIte, ite_true, ite_false, true_and, and_true, false_and, and_false, true_or, or_true, false_or, or_false, not_true_eq_false, not_false_eq_true, and_self, or_self, eq_self, ite_self, decide_true, decide_false, Bool.true_and, Bool.and_true, Bool.and_self, Bool.false_and, Int.add_zero, Int.zero_add, ax_o_447, ax_a_450, kr_447_2]
  rw [ax_let]
  simp (disch := first | assumption | omega) only [Int.reduceEq, Int.reduceNe, Int.reduceLT, Int.reduceLE, Int.reduceAdd, Int.reduceSub, Int.reduceMul, Int.reduceNeg, reduceIte, ite_true, ite_false, true_and, and_true, false_and, and_false, true_or, or_true, false_or, or_false, not_true_eq_false, not_false_eq_true, and_self, or_self, eq_self, ite_self, decide_true, decide_false, Bool.true_and, Bool.and_true, Bool.and_self, Bool.false_and, Int.add_zero, Int.zero_add, ax_rw, if_pos, if_neg, hn, w1]
  rw [ax_let, w2, ax_let]
  rfl
def wq (M : am_M) (c p q n : Int) (f : Int → Int) : am_M := am_wr (am_wr (am_wr (am_wr (am_wr (am_wr (am_wr (am_wr M c n (f 24)) p q (n + 1)) c (n + 1) (f 16)) p q (n + 1 + 1)) c (n + 1 + 1) (f 8)) p q (n + 1 + 1 + 1)) c (n + 1 + 1 + 1) (f 0)) p q (n + 1 + 1 + 1 + 1)
theorem wq_F {c p q : Int} {f : Int → Int} (h : c ≠ p) : am_rd (wq M c p q n f) p q = n + 4 ∧ (∀ i, 0 ≤ i → i < 4 → am_rd (wq M c p q n f) c (n + i) = f (24 - 8 * i)) ∧ (∀ c' i, ¬ (c' = p ∧ i = q) → ¬ (c' = c ∧ n ≤ i ∧ i < n + 4) → am_rd (wq M c p q n f) c' i = am_rd M c' i) := by
  refine ⟨?_, ?_, ?_⟩
  · unfold wq
    rw [ax_rw, if_pos ⟨rfl, rfl⟩]; omega
  · intro i i0 i1
    unfold wq
    have : i = 0 ∨ i = 1 ∨ i = 2 ∨ i = 3 := by omega
    rcases this with rfl | rfl | rfl | rfl <;> (simp (disch := first | assumption | omega) only [Int.reduceEq, Int.reduceNe, Int.reduceLT, Int.reduceLE, Int.reduceAdd, Int.reduceSub, Int.reduceMul, Int.reduceNeg, reduceIte, ite_true, ite_false, true_and, and_true, false_and, and_false, true_or, or_true, false_or, or_false, not_true_eq_false, not_false_eq_true, and_self, or_self, eq_self, ite_self, decide_true, decide_false, Bool.true_and, Bool.and_true, Bool.and_self, Bool.false_and, Int.add_zero, Int.zero_add, ax_rw, if_pos, if_neg]; try rfl)
  · intro c' i h1 h2
    unfold wq
    simp (disch := first | assumption | omega) only [ax_rw, if_pos, if_neg]
theorem c_60 (hK : ax_K M) (hn : am_rd M 1 8 = n) (n0 : 0 ≤ n) (n1 : n + 4 ≤ 300) : ∃ M', (∀ d, am_Call d 60 [(2, 1), (0, x)] M = some (0, M')) ∧ ax_K M' ∧ am_rd M' 1 8 = n + 4 ∧ (∀ i, 0 ≤ i → i < 4 → am_rd M' 419 (n + i) = u8 x (24 - 8 * i)) ∧ (∀ c i, ¬ (c = 1 ∧ i = 8) → ¬ (c = 419 ∧ n ≤ i ∧ i < n + 4) → am_rd M' c i = am_rd M c i) := by
  have e : ∀ d, am_Call d 60 [(2, 1), (0, x)] M = some (0, wq M 419 1 8 n (u8 x)) := fun d => by
    rw [aq_60]
    rw [c_60s hK hn n0 (by omega) (by omega) (by omega), show (24 : Int) - 8 = 16 from rfl]
    rw [c_60s (n := n + 1) (ax_Kw (ax_Kw hK rfl) rfl) (by simp (disch := first | assumption | omega) only [Int.reduceEq, Int.reduceNe, Int.reduceLT, Int.reduceLE, Int.reduceAdd, Int.reduceSub, Int.reduceMul, Int.reduceNeg, reduceIte, ite_true, ite_false, true_and, and_true, false_and, and_false, true_or, or_true, false_or, or_false, not_true_eq_false, not_false_eq_true, and_self, or_self, eq_self, ite_self, decide_true, decide_false, Bool.true_and, Bool.and_true, Bool.and_self, Bool.false_and, Int.add_zero, Int.zero_add, ax_rw, if_pos, if_neg]) (by omega) (by omega) (by omega) (by omega), show (16 : Int) - 8 = 8 from rfl]
    rw [c_60s (n := n + 1 + 1) (ax_Kw (ax_Kw (ax_Kw (ax_Kw hK rfl) rfl) rfl) rfl) (by simp (disch := first | assumption | omega) only [Int.reduceEq, Int.reduceNe, Int.reduceLT, Int.reduceLE, Int.reduceAdd, Int.reduceSub, Int.reduceMul, Int.reduceNeg, reduceIte, ite_true, ite_false, true_and, and_true, false_and, and_false, true_or, or_true, false_or, or_false, not_true_eq_false, not_false_eq_true, and_self, or_self, eq_self, ite_self, decide_true, decide_false, Bool.true_and, Bool.and_true, Bool.and_self, Bool.false_and, Int.add_zero, Int.zero_add, ax_rw, if_pos, if_neg]) (by omega) (by omega) (by omega) (by omega), show (8 : Int) - 8 = 0 from rfl]
    rw [c_60s (n := n + 1 + 1 + 1) (ax_Kw (ax_Kw (ax_Kw (ax_Kw (ax_Kw (ax_Kw hK rfl) rfl) rfl) rfl) rfl) rfl) (by simp (disch := first | assumption | omega) only [Int.reduceEq, Int.reduceNe, Int.reduceLT, Int.reduceLE, Int.reduceAdd, Int.reduceSub, Int.reduceMul, Int.reduceNeg, reduceIte, ite_true, ite_false, true_and, and_true, false_and, and_false, true_or, or_true, false_or, or_false, not_true_eq_false, not_false_eq_true, and_self, or_self, eq_self, ite_self, decide_true, decide_false, Bool.true_and, Bool.and_true, Bool.and_self, Bool.false_and, Int.add_zero, Int.zero_add, ax_rw, if_pos, if_neg]) (by omega) (by omega) (by omega) (by omega)]
    rw [aq_60_3, if_pos (by omega)]
    rfl
  exact ⟨_, e, ax_Kp (e 0) hK rfl, wq_F (by omega)⟩
theorem m_70 (hK : ax_K M) (hn : am_rd M 447 3 = n) (n0 : 0 ≤ n) (n1 : n + 4 ≤ 300) : ∃ M', (∀ d, am_Call d 70 [(2, 447), (0, x)] M = some (0, M')) ∧ ax_K M' ∧ am_rd M' 447 3 = n + 4 ∧ (∀ i, 0 ≤ i → i < 4 → am_rd M' 450 (n + i) = s8 x (24 - 8 * i)) ∧ (∀ c i, ¬ (c = 447 ∧ i = 3) → ¬ (c = 450 ∧ n ≤ i ∧ i < n + 4) → am_rd M' c i = am_rd M c i) := by
  have e : ∀ d, am_Call d 70 [(2, 447), (0, x)] M = some (0, wq M 450 447 3 n (s8 x)) := fun d => by
    rw [aq_70]
    rw [m_70s hK hn n0 (by omega) (by omega) (by omega), show (24 : Int) - 8 = 16 from rfl]
    rw [m_70s (n := n + 1) (ax_Kw (ax_Kw hK rfl) rfl) (by simp (disch := first | assumption | omega) only [Int.reduceEq, Int.reduceNe, Int.reduceLT, Int.reduceLE, Int.reduceAdd, Int.reduceSub, Int.reduceMul, Int.reduceNeg, reduceIte, ite_true, ite_false, true_and, and_true, false_and, and_false, true_or, or_true, false_or, or_false, not_true_eq_false, not_false_eq_true, and_self, or_self, eq_self, ite_self, decide_true, decide_false, Bool.true_and, Bool.and_true, Bool.and_self, Bool.false_and, Int.add_zero, Int.zero_add, ax_rw, if_pos, if_neg]) (by omega) (by omega) (by omega) (by omega), show (16 : Int) - 8 = 8 from rfl]
    rw [m_70s (n := n + 1 + 1) (ax_Kw (ax_Kw (ax_Kw (ax_Kw hK rfl) rfl) rfl) rfl) (by simp (disch := first | assumption | omega) only [Int.reduceEq, Int.reduceNe, Int.reduceLT, Int.reduceLE, Int.reduceAdd, Int.reduceSub, Int.reduceMul, Int.reduceNeg, reduceIte, ite_true, ite_false, true_and, and_true, false_and, and_false, true_or, or_true, false_or, or_false, not_true_eq_false, not_false_eq_true, and_self, or_self, eq_self, ite_self, decide_true, decide_false, Bool.true_and, Bool.and_true, Bool.and_self, Bool.false_and, Int.add_zero, Int.zero_add, ax_rw, if_pos, if_neg]) (by omega) (by omega) (by omega) (by omega), show (8 : Int) - 8 = 0 from rfl]
    rw [m_70s (n := n + 1 + 1 + 1) (ax_Kw (ax_Kw (ax_Kw (ax_Kw (ax_Kw (ax_Kw hK rfl) rfl) rfl) rfl) rfl) rfl) (by simp (disch := first | assumption | omega) only [Int.reduceEq, Int.reduceNe, Int.reduceLT, Int.reduceLE, Int.reduceAdd, Int.reduceSub, Int.reduceMul, Int.reduceNeg, reduceIte, ite_true, ite_false, true_and, and_true, false_and, and_false, true_or, or_true, false_or, or_false, not_true_eq_false, not_false_eq_true, and_self, or_self, eq_self, ite_self, decide_true, decide_false, Bool.true_and, Bool.and_true, Bool.and_self, Bool.false_and, Int.add_zero, Int.zero_add, ax_rw, if_pos, if_neg]) (by omega) (by omega) (by omega) (by omega)]
    rw [aq_70_3, if_pos (by omega)]
    rfl
  exact ⟨_, e, ax_Kp (e 0) hK rfl, wq_F (by omega)⟩
def fp (v w x y z i : Int) : Int := if i < 4 then v else if i < 8 then w else if i < 12 then x else if i < 16 then y else z
theorem five_g {A1 A2 A3 A4 A5 : am_M} {c p q : Int} (g1 : ∀ c' i, ¬ (c' = p ∧ i = q) → ¬ (c' = c ∧ n ≤ i ∧ i < n + 4) → am_rd A1 c' i = am_rd M c' i) (g2 : ∀ c' i, ¬ (c' = p ∧ i = q) → ¬ (c' = c ∧ n + 4 ≤ i ∧ i < n + 4 + 4) → am_rd A2 c' i = am_rd A1 c' i) (g3 : ∀ c' i, ¬ (c' = p ∧ i = q) → ¬ (c' = c ∧ n + 4 + 4 ≤ i ∧ i < n + 4 + 4 + 4) → am_rd A3 c' i = am_rd A2 c' i) (g4 : ∀ c' i, ¬ (c' = p ∧ i = q) → ¬ (c' = c ∧ n + 4 + 4 + 4 ≤ i ∧ i < n + 4 + 4 + 4 + 4) → am_rd A4 c' i = am_rd A3 c' i) (g5 : ∀ c' i, ¬ (c' = p ∧ i = q) → ¬ (c' = c ∧ n + 4 + 4 + 4 + 4 ≤ i ∧ i < n + 4 + 4 + 4 + 4 + 4) → am_rd A5 c' i = am_rd A4 c' i) : ∀ c' i, ¬ (c' = p ∧ i = q) → ¬ (c' = c ∧ n ≤ i ∧ i < n + 20) → am_rd A5 c' i = am_rd M c' i := by
  intro c' i h1 h2
  have e1 := g1 c' i h1 fun h => h2 ⟨h.1, by omega, by omega⟩
  have e2 := g2 c' i h1 fun h => h2 ⟨h.1, by omega, by omega⟩
  have e3 := g3 c' i h1 fun h => h2 ⟨h.1, by omega, by omega⟩
  have e4 := g4 c' i h1 fun h => h2 ⟨h.1, by omega, by omega⟩
  have e5 := g5 c' i h1 fun h => h2 ⟨h.1, by omega, by omega⟩
  exact e5.trans (e4.trans (e3.trans (e2.trans e1)))
theorem five_f {A1 A2 A3 A4 A5 : am_M} {c p q v w x y z : Int} {f : Int → Int → Int} (hc : c ≠ p) (f1 : ∀ i, 0 ≤ i → i < 4 → am_rd A1 c (n + i) = f v (24 - 8 * i)) (f2 : ∀ i, 0 ≤ i → i < 4 → am_rd A2 c (n + 4 + i) = f w (24 - 8 * i)) (f3 : ∀ i, 0 ≤ i → i < 4 → am_rd A3 c (n + 4 + 4 + i) = f x (24 - 8 * i)) (f4 : ∀ i, 0 ≤ i → i < 4 → am_rd A4 c (n + 4 + 4 + 4 + i) = f y (24 - 8 * i)) (f5 : ∀ i, 0 ≤ i → i < 4 → am_rd A5 c (n + 4 + 4 + 4 + 4 + i) = f z (24 - 8 * i))
    (g2 : ∀ c' i, ¬ (c' = p ∧ i = q) → ¬ (c' = c ∧ n + 4 ≤ i ∧ i < n + 4 + 4) → am_rd A2 c' i = am_rd A1 c' i) (g3 : ∀ c' i, ¬ (c' = p ∧ i = q) → ¬ (c' = c ∧ n + 4 + 4 ≤ i ∧ i < n + 4 + 4 + 4) → am_rd A3 c' i = am_rd A2 c' i) (g4 : ∀ c' i, ¬ (c' = p ∧ i = q) → ¬ (c' = c ∧ n + 4 + 4 + 4 ≤ i ∧ i < n + 4 + 4 + 4 + 4) → am_rd A4 c' i = am_rd A3 c' i) (g5 : ∀ c' i, ¬ (c' = p ∧ i = q) → ¬ (c' = c ∧ n + 4 + 4 + 4 + 4 ≤ i ∧ i < n + 4 + 4 + 4 + 4 + 4) → am_rd A5 c' i = am_rd A4 c' i) : ∀ i, 0 ≤ i → i < 20 → am_rd A5 c (n + i) = f (fp v w x y z i) (24 - 8 * (i % 4)) := by
  intro i i0 i1
  have e2 := g2 c (n + i) (fun h => hc h.1)
  have e3 := g3 c (n + i) (fun h => hc h.1)
  have e4 := g4 c (n + i) (fun h => hc h.1)
  have e5 := g5 c (n + i) (fun h => hc h.1)
  clear g2 g3 g4 g5
  unfold fp
  by_cases c1 : i < 4
  · rw [if_pos c1, e5 (fun h => by omega), e4 (fun h => by omega), e3 (fun h => by omega), e2 (fun h => by omega), f1 i i0 c1, show i % 4 = i by omega]
  · rw [if_neg c1]
    by_cases c2 : i < 8
    · have := f2 (i - 4) (by omega) (by omega)
      rw [show n + 4 + (i - 4) = n + i by omega] at this
      rw [if_pos c2, e5 (fun h => by omega), e4 (fun h => by omega), e3 (fun h => by omega), this, show i % 4 = i - 4 by omega]
    · rw [if_neg c2]
      by_cases c3 : i < 12
      · have := f3 (i - 8) (by omega) (by omega)
        rw [show n + 4 + 4 + (i - 8) = n + i by omega] at this
        rw [if_pos c3, e5 (fun h => by omega), e4 (fun h => by omega), this, show i % 4 = i - 8 by omega]
      · rw [if_neg c3]
        by_cases c4 : i < 16
        · have := f4 (i - 12) (by omega) (by omega)
          rw [show n + 4 + 4 + 4 + (i - 12) = n + i by omega] at this
          rw [if_pos c4, e5 (fun h => by omega), this, show i % 4 = i - 12 by omega]
        · have := f5 (i - 16) (by omega) (by omega)
          rw [show n + 4 + 4 + 4 + 4 + (i - 16) = n + i by omega] at this
          rw [if_neg c4, this, show i % 4 = i - 16 by omega]
theorem feed_c {v w x y z : Int} (hK : ax_K M) (t1 : am_rd M 1 8 = n) (n0 : 0 ≤ n) (h1 : n + 20 ≤ 300) : ∃ A, (∀ d, am_Call d 138 [(2, 1), (0, v), (0, w), (0, x), (0, y), (0, z)] M = some (n + 20, A)) ∧ ax_K A ∧ am_rd A 1 8 = n + 20 ∧ (∀ i, 0 ≤ i → i < 20 → am_rd A 419 (n + i) = u8 (fp v w x y z i) (24 - 8 * (i % 4))) ∧ (∀ c i, ¬ (c = 1 ∧ i = 8) → ¬ (c = 419 ∧ n ≤ i ∧ i < n + 20) → am_rd A c i = am_rd M c i) := by
  have a0 : am_ia 419 = true := rfl
  have l0 : am_ln 419 = 300 := rfl
  have w0 : am_w32 (n + 20) = n + 20 := ax_w32 (by omega) (by omega)
  obtain ⟨A1, e1, K1, n1, f1, g1⟩ := c_60 (x := v) hK t1 n0 (by omega)
  obtain ⟨A2, e2, K2, n2, f2, g2⟩ := c_60 (x := w) K1 n1 (by omega) (by omega)
  obtain ⟨A3, e3, K3, n3, f3, g3⟩ := c_60 (x := x) K2 n2 (by omega) (by omega)
  obtain ⟨A4, e4, K4, n4, f4, g4⟩ := c_60 (x := y) K3 n3 (by omega) (by omega)
  obtain ⟨A5, e5, K5, n5, f5, g5⟩ := c_60 (x := z) K4 n4 (by omega) (by omega)
  rw [show n + 4 + 4 + 4 + 4 + 4 = n + 20 by omega] at n5
  refine ⟨A5, fun d => ?_, K5, n5, five_f (by decide) f1 f2 f3 f4 f5 g2 g3 g4 g5, five_g g1 g2 g3 g4 g5⟩
  rw [aq_138, kr_1_7 hK, a0, l0, t1, w0, if_pos h1]
  simp (disch := first | assumption | omega) only [ax_gt, ax_gi, Option.bind_some, ax_gbl, ax_gb2, ax_gd, ax_o_1, kr_1_0, kr_1_1, kr_1_2, kr_1_3, kr_1_4, kr_1_5, kr_1_6, kr_1_7, kr_1_9, kr_1_10, kr_1_11, kr_1_12, kr_1_13, kr_1_14, ax_a_419, e1, e2, e3, e4, e5, n5]
theorem feed_m {v w x y z : Int} (hK : ax_K M) (t1 : am_rd M 447 3 = n) (n0 : 0 ≤ n) (h1 : n + 20 ≤ 300) : ∃ A, (∀ d, am_Call d 149 [(2, 447), (0, v), (0, w), (0, x), (0, y), (0, z)] M = some (n + 20, A)) ∧ ax_K A ∧ am_rd A 447 3 = n + 20 ∧ (∀ i, 0 ≤ i → i < 20 → am_rd A 450 (n + i) = s8 (fp v w x y z i) (24 - 8 * (i % 4))) ∧ (∀ c i, ¬ (c = 447 ∧ i = 3) → ¬ (c = 450 ∧ n ≤ i ∧ i < n + 20) → am_rd A c i = am_rd M c i) := by
  have w0 : am_w32 (n + 20) = n + 20 := ax_w32 (by omega) (by omega)
  obtain ⟨A1, e1, K1, n1, f1, g1⟩ := m_70 (x := v) hK t1 n0 (by omega)
  obtain ⟨A2, e2, K2, n2, f2, g2⟩ := m_70 (x := w) K1 n1 (by omega) (by omega)
  obtain ⟨A3, e3, K3, n3, f3, g3⟩ := m_70 (x := x) K2 n2 (by omega) (by omega)
  obtain ⟨A4, e4, K4, n4, f4, g4⟩ := m_70 (x := y) K3 n3 (by omega) (by omega)
  obtain ⟨A5, e5, K5, n5, f5, g5⟩ := m_70 (x := z) K4 n4 (by omega) (by omega)
  rw [show n + 4 + 4 + 4 + 4 + 4 = n + 20 by omega] at n5
  refine ⟨A5, fun d => ?_, K5, n5, five_f (by decide) f1 f2 f3 f4 f5 g2 g3 g4 g5, five_g g1 g2 g3 g4 g5⟩
  rw [aq_149, t1, w0, if_pos h1]
  simp (disch := first | assumption | omega) only [ax_gt, ax_gi, Option.bind_some, ax_gbl, ax_gb2, ax_gd, ax_o_447, e1, e2, e3, e4, e5, n5]
theorem op_feed (a : RR M) {v w x y z : Int} : OP d M 138 149 [(0, v), (0, w), (0, x), (0, y), (0, z)] := by
  have hK := a.1
  obtain ⟨t1, t2, t3, t4⟩ := a.2.2.2.1
  have a0 : am_ia 419 = true := rfl
  have l0 : am_ln 419 = 300 := rfl
  by_cases h1 : am_rd M 447 3 + 20 ≤ 300
  · obtain ⟨A, e1, K1, n1, f1, g1⟩ := feed_c (v := v) (w := w) (x := x) (y := y) (z := z) hK t1 t2.1 h1
    obtain ⟨B, e2, K2, n2, f2, g2⟩ := feed_m (n := am_rd M 447 3) (v := v) (w := w) (x := x) (y := y) (z := z) K1 (g1 _ _ (fun h => absurd h.1 (by decide)) (fun h => absurd h.1 (by decide))) t2.1 h1
    have gg : ∀ c i, ¬ (c = 1 ∧ i = 8) → ¬ c = 419 → ¬ (c = 447 ∧ i = 3) → ¬ c = 450 → am_rd B c i = am_rd M c i := fun c i q1 q2 q3 q4 => (g2 c i q3 fun h => q4 h.1).trans (g1 c i q1 fun h => q2 h.1)
    refine ⟨_, A, B, e1 d, e2 d, K2, ?_, ?_, ⟨?_, ?_, fun j j0 j1 => ?_, ?_⟩, ?_⟩
    · exact RP_same a.2.1 (fun c i h => gg c i (by omega) (by omega) (by omega) (by omega)) (fun i _ _ => gg 448 i (by omega) (by omega) (by omega) (by omega))
    · exact RP_same a.2.2.1 (fun c i h => gg c i (by omega) (by omega) (by omega) (by omega)) (fun i _ _ => gg 449 i (by omega) (by omega) (by omega) (by omega))
    · rw [g2 1 8 (by omega) (by omega), n1, n2]
    · rw [n2]; omega
    · rw [n2] at j1
      rw [g2 419 j (by omega) (by omega)]
      by_cases h2 : j < am_rd M 447 3
      · rw [g1 419 j (by omega) (by omega), g2 450 j (by omega) (by omega), g1 450 j (by omega) (by omega)]
        exact t3 j j0 h2
      · have q1 := f1 (j - am_rd M 447 3) (by omega) (by omega)
        have q2 := f2 (j - am_rd M 447 3) (by omega) (by omega)
        rw [show am_rd M 447 3 + (j - am_rd M 447 3) = j by omega] at q1 q2
        rw [q1, q2]
        exact us8 _ (by omega)
    · rw [gg 420 7 (by omega) (by omega) (by omega) (by omega), gg 420 8 (by omega) (by omega) (by omega) (by omega), gg 420 9 (by omega) (by omega) (by omega) (by omega), gg 447 4 (by omega) (by omega) (by omega) (by omega), gg 447 5 (by omega) (by omega) (by omega) (by omega)]
      exact t4
    · exact RX_same a.2.2.2.2 (fun c i h => gg c i (by omega) (by omega) (by omega) (by omega))
  · have w0 : am_w32 (am_rd M 447 3 + 20) = am_rd M 447 3 + 20 := ax_w32 (by omega) (by omega)
    refine ⟨-1, M, M, ?_, ?_, a⟩
    · show am_Call d 138 [(2, 1), (0, v), (0, w), (0, x), (0, y), (0, z)] M = _
      rw [aq_138, kr_1_7 hK, a0, l0, t1, w0, if_neg h1]
      simp (disch := first | assumption | omega) only [ax_gt, ax_gi, Option.bind_some, ax_gbl, ax_gb2, ax_gd, ax_o_1, kr_1_0, kr_1_1, kr_1_2, kr_1_3, kr_1_4, kr_1_5, kr_1_6, kr_1_7, kr_1_9, kr_1_10, kr_1_11, kr_1_12, kr_1_13, kr_1_14, ax_a_419]
    · show am_Call d 149 [(2, 447), (0, v), (0, w), (0, x), (0, y), (0, z)] M = _
      rw [aq_149, w0, if_neg h1]
      simp (disch := first | assumption | omega) only [ax_gt, ax_gi, Option.bind_some, ax_gbl, ax_gb2, ax_gd, ax_o_447]
end
