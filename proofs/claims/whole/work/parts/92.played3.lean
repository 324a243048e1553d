/-! played: the deeds, and the whole -/
section
variable {M V : am_M} {d : Nat} {s t j p q r k : Int}
theorem pl_num {x m : Nat} {as : List am_V} (a : RR V) (hs : hS s) (t0 : 0 ≤ t) (t1 : t < 4) (j0 : 0 ≤ j) (j1 : j < 24) (f : PF V s t j k p q r) (hk : k ≠ 11) (h : OPf d V x m as) (h1 : ∀ U, dq d U k (am_rd V (s + 5) (3 * j)) (am_rd V (s + 5) (3 * j + 1)) (am_rd V (s + 5) (3 * j + 2)) = (am_Call d x ((2, 1) :: as) U).bind fun r => if r.1 = (-1) then (some (0, r.2)) else (some (1, r.2))) (h2 : ∀ U, mq d t j U k (am_rd V 454 (24 * t + j)) (am_rd V 455 (24 * t + j)) (am_rd V 456 (24 * t + j)) = (am_Call d m ((2, 447) :: as) U).bind fun r => if r.1 = (-1) then (am_Ex d 305 139 [(2, 447), (0, t), (0, j), am_N, am_N, am_N, (0, 0)] [] r.2) else (am_Ex d 305 139 [(2, 447), (0, t), (0, j), am_N, am_N, am_N, (0, 1)] [] r.2)) : PL d V s t j := by
  obtain ⟨v, V', e1, e2, R, R3⟩ := h
  by_cases hv : v = -1
  · refine pl_of (b := 0) (V' := V') a hs t0 t1 j0 j1 f hk (fun X _ => ?_) (fun Y _ => ?_) R R3
    · rw [h1, e1, Option.bind_some]
      exact if_pos hv
    · rw [h2, e2, Option.bind_some]
      exact if_pos hv
  · refine pl_of (b := 1) (V' := V') a hs t0 t1 j0 j1 f hk (fun X _ => ?_) (fun Y _ => ?_) R R3
    · rw [h1, e1, Option.bind_some]
      exact if_neg hv
    · rw [h2, e2, Option.bind_some]
      exact if_neg hv
theorem pl_bool {x m : Nat} {as : List am_V} (a : RR V) (hs : hS s) (t0 : 0 ≤ t) (t1 : t < 4) (j0 : 0 ≤ j) (j1 : j < 24) (f : PF V s t j k p q r) (hk : k ≠ 11) (hx : am_rk x = 2) (h : OPf d V x m as) (h1 : ∀ U, dq d U k (am_rd V (s + 5) (3 * j)) (am_rd V (s + 5) (3 * j + 1)) (am_rd V (s + 5) (3 * j + 2)) = (am_Call d x ((2, 1) :: as) U).bind fun r => am_g (r.1 == 0 || r.1 == 1) (some (r.1, r.2))) (h2 : ∀ U, mq d t j U k (am_rd V 454 (24 * t + j)) (am_rd V 455 (24 * t + j)) (am_rd V 456 (24 * t + j)) = (am_Call d m ((2, 447) :: as) U).bind fun r => (am_Ex d 305 139 [(2, 447), (0, t), (0, j), am_N, am_N, am_N, (0, r.1)] [] r.2)) : PL d V s t j := by
  obtain ⟨v, V', e1, e2, R, R3⟩ := h
  have hv := bo_call hx (e1 V)
  refine pl_of (b := v) (V' := V') a hs t0 t1 j0 j1 f hk (fun X _ => ?_) (fun Y _ => ?_) R R3
  · rw [h1, e1, Option.bind_some]
    rcases hv with rfl | rfl <;> rfl
  · rw [h2, e2, Option.bind_some]
theorem pl_4 (a : RR V) (hs : hS s) (t0 : 0 ≤ t) (t1 : t < 4) (j0 : 0 ≤ j) (j1 : j < 24) (f : PF V s t j 4 p q r) : PL d V s t j := by
  obtain ⟨x1, x2⟩ := f.2.2.1 (by omega)
  obtain ⟨y1, y2⟩ := f.2.2.2.1 (by omega)
  obtain ⟨z1, z2⟩ := f.2.2.2.2 (by omega)
  refine pl_num a hs t0 t1 j0 j1 f (by decide) (OP_f a (op_teach (m := p) (t := q) (k := r) a) rfl rfl na3) (fun U => ?_) (fun U => ?_)
  · rw [x1, y1, z1]; rfl
  · rw [x2, y2, z2]; rfl
theorem pl_5 (a : RR V) (hs : hS s) (t0 : 0 ≤ t) (t1 : t < 4) (j0 : 0 ≤ j) (j1 : j < 24) (f : PF V s t j 5 p q r) : PL d V s t j := by
  obtain ⟨x1, x2⟩ := f.2.2.1 (by omega)
  obtain ⟨y1, y2⟩ := f.2.2.2.1 (by omega)
  obtain ⟨z1, z2⟩ := f.2.2.2.2 (by omega)
  refine pl_num a hs t0 t1 j0 j1 f (by decide) (OP_f a (op_mislead (m := p) (t := q) (k := r) a) rfl rfl na3) (fun U => ?_) (fun U => ?_)
  · rw [x1, y1, z1]; rfl
  · rw [x2, y2, z2]; rfl
theorem pl_6 (a : RR V) (hs : hS s) (t0 : 0 ≤ t) (t1 : t < 4) (j0 : 0 ≤ j) (j1 : j < 24) (f : PF V s t j 6 p q r) : PL d V s t j := by
  obtain ⟨x1, x2⟩ := f.2.2.1 (by omega)
  refine pl_bool a hs t0 t1 j0 j1 f (by decide) rfl (OP_f a (op_drink (m := p) a) rfl rfl na1) (fun U => ?_) (fun U => ?_)
  · rw [x1]; rfl
  · rw [x2]; rfl
theorem pl_8 (a : RR V) (hs : hS s) (t0 : 0 ≤ t) (t1 : t < 4) (j0 : 0 ≤ j) (j1 : j < 24) (f : PF V s t j 8 p q r) : PL d V s t j := by
  obtain ⟨x1, x2⟩ := f.2.2.1 (by omega)
  obtain ⟨y1, y2⟩ := f.2.2.2.1 (by omega)
  refine pl_bool a hs t0 t1 j0 j1 f (by decide) rfl (OP_f a (op_tie (m := p) (t := q) a) rfl rfl na2) (fun U => ?_) (fun U => ?_)
  · rw [x1, y1]; rfl
  · rw [x2, y2]; rfl
theorem pl_9 (a : RR V) (hs : hS s) (t0 : 0 ≤ t) (t1 : t < 4) (j0 : 0 ≤ j) (j1 : j < 24) (f : PF V s t j 9 p q r) : PL d V s t j := by
  obtain ⟨x1, x2⟩ := f.2.2.1 (by omega)
  obtain ⟨y1, y2⟩ := f.2.2.2.1 (by omega)
  refine pl_num a hs t0 t1 j0 j1 f (by decide) (OP_f a (op_smelt (m := q) (s := p) a) rfl rfl na2) (fun U => ?_) (fun U => ?_)
  · rw [x1, y1]; rfl
  · rw [x2, y2]; rfl
theorem pl_10 (a : RR V) (hs : hS s) (t0 : 0 ≤ t) (t1 : t < 4) (j0 : 0 ≤ j) (j1 : j < 24) (f : PF V s t j 10 p q r) : PL d V s t j := by
  obtain ⟨x1, x2⟩ := f.2.2.1 (by omega)
  refine pl_num a hs t0 t1 j0 j1 f (by decide) (OP_f a (op_tried (m := p) a) rfl rfl na1) (fun U => ?_) (fun U => ?_)
  · rw [x1]; rfl
  · rw [x2]; rfl
theorem mix_CH {X : am_M} {h n : Int} {H : Int → Int} (C : CH V h n H) (hh : h + 5 < 447) : CH (mix true V X) h n H := CH_same C fun c i _ h2 => mix_rd (reg_t (by omega))
theorem mix_cB {X : am_M} (b : cg_B V) : cg_B (mix true V X) := by
  have rd : ∀ i, am_rd (mix true V X) 2 i = am_rd V 2 i := fun i => mix_rd (reg_t (by omega))
  unfold cg_B
  rw [rd, rd, rd, rd, rd]
  exact b
theorem mix_mB {Y : am_M} (b : mb_B V) : mb_B (mix false V Y) := by
  have rd : ∀ i, am_rd (mix false V Y) 448 i = am_rd V 448 i := fun i => mix_rd (reg_f (by omega) (by omega))
  unfold mb_B
  rw [rd, rd, rd, rd, rd, rd]
  exact b
theorem pl_7 (a : RR V) (hs : hS s) (t0 : 0 ≤ t) (t1 : t < 4) (j0 : 0 ≤ j) (j1 : j < 24) (f : PF V s t j 7 p q r) (p0 : 0 ≤ p) (p1 : p ≤ 5) (q0 : 0 ≤ q) (q1 : q ≤ 7) : PL d V s t j := by
  obtain ⟨x1, x2⟩ := f.2.2.1 (by omega)
  obtain ⟨y1, y2⟩ := f.2.2.2.1 (by omega)
  have gB := RR_gB a
  have mB := RR_mB a
  have n1 : am_rd V 2 6 = am_rd V 448 1 := a.2.1.1.1.2.1
  have T1 : am_rd V 2 5 = am_rd V 448 0 := a.2.1.1.1.1
  have e117 : ∀ X, ax_K X → am_Call d 117 [(2, 8), (0, p), (0, q)] (mix true V X) = some (ax_b (am_and (am_shr (fl V 448 60 (144 + p)) q) 1 = 1), mix true V X) := fun X hX => c_117 (mix_K a.1 hX) h88 (mix_CH (RR_C a) (by omega)) p0 (by omega) q0 (by omega)
  have dx : ∀ X c, ax_K X → (c = 4 ∨ c ≠ 4) → dq d (mix true V X) 7 p q c = (am_Call d 185 [(2, 1), (0, p), (0, q), (0, if am_and (am_shr (fl V 448 60 (144 + p)) q) 1 = 1 then 0 else 1)] (mix true V X)).bind fun r => am_g (r.1 == 0 || r.1 == 1) (some (r.1, r.2)) := fun X c hX _ => by
    have e0 : dq d (mix true V X) 7 p q c = ((am_Call d 117 [(2, 8), (0, p), (0, q)] (mix true V X)).bind fun r => if r.1 = 0 then ((am_Call d 185 [(2, 1), (0, p), (0, q), (0, 1)] r.2).bind fun r => am_g (r.1 == 0 || r.1 == 1) (some (r.1, r.2))) else ((am_Call d 185 [(2, 1), (0, p), (0, q), (0, 0)] r.2).bind fun r => am_g (r.1 == 0 || r.1 == 1) (some (r.1, r.2)))) := rfl
    rw [e0, e117 X hX, Option.bind_some]
    dsimp only []
    by_cases h : am_and (am_shr (fl V 448 60 (144 + p)) q) 1 = 1
    · rw [if_neg (by rw [ax_b0]; exact fun w => w h), if_pos h]
    · rw [if_pos (by rw [ax_b0]; exact h), if_neg h]
  have e144 : ∀ Y, ax_K Y → am_Call d 144 [(2, 447), (0, p)] (mix false V Y) = some (ax_b (0 ≤ p ∧ p < am_rd V 448 1), mix false V Y) := fun Y hY => by
    rw [m_144 (mix_K a.1 hY) (mix_mB mB), mix_rd (reg_f (by omega) (by omega))]
  by_cases hm : 0 ≤ p ∧ p < am_rd V 448 1
  · obtain ⟨v, V', g1, g2, R, R3⟩ := OP_f a (op_sing (d := d) (m := p) (t := q) (k := if am_and (am_shr (fl V 448 60 (144 + p)) q) 1 = 1 then 0 else 1) a) rfl rfl na3
    have hv := bo_call rfl (g1 V)
    refine pl_of (b := v) (V' := V') a hs t0 t1 j0 j1 f (by decide) (fun X hX => ?_) (fun Y hY => ?_) R R3
    · rw [x1, y1, dx X _ hX (by omega), g1, Option.bind_some]
      rcases hv with rfl | rfl <;> rfl
    · rw [x2, y2]
      have bt : am_rd (mix false V Y) 448 (204 + p) = fl V 448 60 (144 + p) := (mix_rd (reg_f (by omega) (by omega))).trans (fl_at (by omega)).symm
      have e0 : ∀ c, mq d t j (mix false V Y) 7 p q c = ((am_Call d 144 [(2, 447), (0, p)] (mix false V Y)).bind fun r121 => if r121.1 = 0 then (am_Ex d 305 103 [(2, 447), (0, t), (0, j), am_N, am_N, am_N, am_N] [] r121.2) else (am_g (am_ar (am_rd r121.2 447 0) 20 (am_w32 (204 + p))) <| (am_Call d 65 [(0, am_rd r121.2 (am_rd r121.2 447 0) (am_w32 (204 + p))), (0, q)] r121.2).bind fun r124 => if r124.1 = 0 then ((am_Call d 227 [(2, 447), (0, p), (0, q), (0, 1)] r124.2).bind fun r126 => if r126.1 = 0 then (am_Ex d 305 103 [(2, 447), (0, t), (0, j), am_N, am_N, am_N, am_N] [] r126.2) else (am_Ex d 305 139 [(2, 447), (0, t), (0, j), am_N, am_N, am_N, (0, 1)] [] r126.2)) else ((am_Call d 227 [(2, 447), (0, p), (0, q), (0, 0)] r124.2).bind fun r128 => if r128.1 = 0 then (am_Ex d 305 103 [(2, 447), (0, t), (0, j), am_N, am_N, am_N, am_N] [] r128.2) else (am_Ex d 305 139 [(2, 447), (0, t), (0, j), am_N, am_N, am_N, (0, 1)] [] r128.2)))) := fun _ => rfl
      have K2 := mix_K (s := false) a.1 hY
      rw [e0, e144 Y hY, Option.bind_some]
      dsimp only []
      rw [if_neg (by rw [ax_b0]; exact fun w => w hm), kr_447_0 K2, ax_w32 (x := 204 + p) (by omega) (by omega), ax_a_448, ax_gi (by omega) (by omega), bt, m_65, Option.bind_some]
      dsimp only []
      have g3 := g2 Y
      by_cases h : am_and (am_shr (fl V 448 60 (144 + p)) q) 1 = 1
      · rw [if_pos h] at g3
        rw [if_neg (by rw [ax_b0]; exact fun w => w h), g3, Option.bind_some]
        dsimp only []
        rcases hv with rfl | rfl
        · rw [if_pos rfl, aq_305_103]
        · rw [if_neg (by decide)]
      · rw [if_neg h] at g3
        rw [if_pos (by rw [ax_b0]; exact h), g3, Option.bind_some]
        dsimp only []
        rcases hv with rfl | rfl
        · rw [if_pos rfl, aq_305_103]
        · rw [if_neg (by decide)]
  · refine pl_of (b := 0) (V' := V) a hs t0 t1 j0 j1 f (by decide) (fun X hX => ?_) (fun Y hY => ?_) a rfl
    · have K1 := mix_K (s := true) a.1 hX
      have c107 := c_107 (d := d) (m := p) (t := q) K1 (mix_cB (X := X) gB)
      rw [mix_rd (reg_t (by omega)), mix_rd (reg_t (by omega)), n1, T1, ax_bf (fun h => hm h.1)] at c107
      have e185 : ∀ w, am_Call d 185 [(2, 1), (0, p), (0, q), (0, w)] (mix true V X) = some (0, mix true V X) := fun w => by
        rw [aq_185]
        simp (disch := first | assumption | omega) only [ax_gt, ax_gi, Option.bind_some, ax_gbl, ax_gb2, ax_gd, Int.reduceEq, Int.reduceNe, Int.reduceLT, Int.reduceLE, Int.reduceAdd, Int.reduceSub, Int.reduceMul, Int.reduceNeg, reduceIte, ite_true, ite_false, true_and, and_true, false_and, and_false, true_or, or_true, false_or, or_false, not_true_eq_false, not_false_eq_true, and_self, or_self, eq_self, ite_self, decide_true, decide_false, Bool.true_and, Bool.and_true, Bool.and_self, Bool.false_and, Int.add_zero, Int.zero_add, ax_o_1, kr_1_0, kr_1_1, kr_1_2, kr_1_3, kr_1_4, kr_1_5, kr_1_6, kr_1_7, kr_1_9, kr_1_10, kr_1_11, kr_1_12, kr_1_13, kr_1_14, ax_a_419, ax_o_2, kr_2_0, kr_2_1, kr_2_2, kr_2_3, kr_2_4, ax_a_3, ax_a_4, ax_a_5, ax_a_6, ax_a_7, c107]
      rw [x1, y1, dx X _ hX (by omega), e185, Option.bind_some]
      rfl
    · rw [x2, y2]
      have e0 : ∀ c, mq d t j (mix false V Y) 7 p q c = ((am_Call d 144 [(2, 447), (0, p)] (mix false V Y)).bind fun r121 => if r121.1 = 0 then (am_Ex d 305 103 [(2, 447), (0, t), (0, j), am_N, am_N, am_N, am_N] [] r121.2) else (am_g (am_ar (am_rd r121.2 447 0) 20 (am_w32 (204 + p))) <| (am_Call d 65 [(0, am_rd r121.2 (am_rd r121.2 447 0) (am_w32 (204 + p))), (0, q)] r121.2).bind fun r124 => if r124.1 = 0 then ((am_Call d 227 [(2, 447), (0, p), (0, q), (0, 1)] r124.2).bind fun r126 => if r126.1 = 0 then (am_Ex d 305 103 [(2, 447), (0, t), (0, j), am_N, am_N, am_N, am_N] [] r126.2) else (am_Ex d 305 139 [(2, 447), (0, t), (0, j), am_N, am_N, am_N, (0, 1)] [] r126.2)) else ((am_Call d 227 [(2, 447), (0, p), (0, q), (0, 0)] r124.2).bind fun r128 => if r128.1 = 0 then (am_Ex d 305 103 [(2, 447), (0, t), (0, j), am_N, am_N, am_N, am_N] [] r128.2) else (am_Ex d 305 139 [(2, 447), (0, t), (0, j), am_N, am_N, am_N, (0, 1)] [] r128.2)))) := fun _ => rfl
      rw [e0, e144 Y hY, Option.bind_some]
      dsimp only []
      rw [if_pos (by rw [ax_b0]; exact hm), aq_305_103]
theorem pl_11 (a : RR V) (hs : hS s) (t0 : 0 ≤ t) (t1 : t < 4) (j0 : 0 ≤ j) (j1 : j < 24) (f : PF V s t j 11 p q r) (p0 : 1 ≤ p) (p1 : p ≤ 60) : PL d V s t j := by
  have sb := hS_b hs
  obtain ⟨x1, x2⟩ := f.2.2.1 (by omega)
  obtain ⟨v, V', g1, g2, R, R3⟩ := OP_f a (op_nights (d := d) a p0 p1).1 rfl rfl na1
  have rd : ∀ X c i, c < 447 → am_rd (mix true V X) c i = am_rd V c i := fun X c i h => mix_rd (reg_t h)
  have rm : ∀ Y c i, 447 ≤ c → c < 484 → am_rd (mix false V Y) c i = am_rd V c i := fun Y c i h h' => mix_rd (reg_f h h')
  refine ⟨v, V', fun X hX => ?_, fun Y hY => ?_, R, R3⟩
  · exact c_291n (mix_K a.1 hX) hs j0 j1 (by rw [rd X s 6 (by omega)]; exact f.1.1) (by rw [rd X _ _ (by omega)]; exact f.2.1.1) (by rw [rd X _ _ (by omega)]; exact x1) (g1 X)
  · rw [m_305r (mix_K a.1 hY) t0 t1 j0 j1 (by rw [rm Y _ _ (by omega) (by omega)]; exact f.1.2), rm Y _ _ (by omega) (by omega), rm Y _ _ (by omega) (by omega), rm Y _ _ (by omega) (by omega), rm Y _ _ (by omega) (by omega), f.2.1.2, x2]
    have e0 : ∀ b c, mq d t j (mix false V Y) 11 p b c = ((am_Call d 304 [(2, 447), (0, p)] (mix false V Y)).bind fun r139 => am_Ex d 305 139 [(2, 447), (0, t), (0, j), am_N, am_N, am_N, (0, r139.1)] [] r139.2) := fun _ _ => rfl
    rw [e0, g2, Option.bind_some]
    dsimp only []
    rw [m_305e j0 j1]
/-- both sides from a clause on -/
theorem pl_all (t0 : 0 ≤ t) (t1 : t < 4) (hs : hS s) (st : s = 15 + 6 * t) : ∀ (n : Nat) (j : Int) (V : am_M), 0 ≤ j → j + n = 25 → RR V → t < am_rd V 448 3 → ∃ r V', (∀ X, ax_K X → am_Ex d 291 26 [(2, 1), am_N, (2, s), (0, j), am_N] [] (mix true V X) = some (r, mix true V' X)) ∧ (∀ Y, ax_K Y → am_Ex d 305 15 [(2, 447), (0, t), (0, j), am_N, am_N, am_N, am_N] [] (mix false V Y) = some (r, mix false V' Y)) ∧ RR V' := by
  have sb := hS_b hs
  intro n
  induction n with
  | zero =>
    intro j V j0 hj a ht
    obtain ⟨x1, X, x2⟩ := a.2.2.2.2
    obtain ⟨c1, c2, c3⟩ := x2 t t0 t1 ht
    have l := c3.1
    refine ⟨-1, V, fun X' hX => ?_, fun Y hY => ?_, a⟩
    · rw [aq_291_26, hS_ob hs, ax_gt, mix_rd (reg_t (by omega)), st, c1.1, if_neg (by omega)]
    · rw [aq_305_15, show am_ob 447 11 = true from rfl, ax_gt, kr_447_6 (mix_K a.1 hY), ax_a_451, ax_gi (by omega) (by omega), mix_rd (reg_f (by omega) (by omega)), c2.1, if_neg (by omega)]
  | succ n ih =>
    intro j V j0 hj a ht
    obtain ⟨x1, X, x2⟩ := a.2.2.2.2
    obtain ⟨c1, c2, c3⟩ := x2 t t0 t1 ht
    have l := c3.1
    by_cases hl : j < ((X t).length : Int)
    · have hn : j.toNat < (X t).length := by omega
      have ej : ((j.toNat : Nat) : Int) = j := Int.toNat_of_nonneg j0
      obtain ⟨k1, k2, k3, k4⟩ := c1.2.1 j.toNat hn
      obtain ⟨l1, l2, l3, l4, -⟩ := c2.2 j.toNat hn
      obtain ⟨o1, -, o3, o4, o5, o6, o7⟩ := c3.2.1 j.toNat hn
      rw [ej, ← st] at k1 k2 k3 k4
      rw [ej] at l1 l2 l3 l4
      generalize (X t)[j.toNat] = y at *
      have F : PF V s t j y.1 y.2.1 y.2.2.1 y.2.2.2.1 := ⟨⟨by rw [st, c1.1]; exact hl, by rw [c2.1]; exact hl⟩, ⟨k1, l1⟩, fun h => ⟨k2 h, l2 h⟩, fun h => ⟨k3 h, l3 h⟩, fun h => ⟨k4 h, l4 h⟩⟩
      have P : PL d V s t j := by
        have hk : y.1 < 4 ∨ y.1 = 4 ∨ y.1 = 5 ∨ y.1 = 6 ∨ y.1 = 7 ∨ y.1 = 8 ∨ y.1 = 9 ∨ y.1 = 10 ∨ y.1 = 11 := by omega
        rcases hk with h | h | h | h | h | h | h | h | h
        · exact pl_law a hs t0 t1 j0 (by omega) F h
        · rw [h] at F; exact pl_4 a hs t0 t1 j0 (by omega) F
        · rw [h] at F; exact pl_5 a hs t0 t1 j0 (by omega) F
        · rw [h] at F; exact pl_6 a hs t0 t1 j0 (by omega) F
        · rw [h] at F
          have u1 := o3 (by omega) (by omega)
          have u2 := o5 (by omega)
          exact pl_7 a hs t0 t1 j0 (by omega) F u1.1 u1.2 u2.1 u2.2
        · rw [h] at F; exact pl_8 a hs t0 t1 j0 (by omega) F
        · rw [h] at F; exact pl_9 a hs t0 t1 j0 (by omega) F
        · rw [h] at F; exact pl_10 a hs t0 t1 j0 (by omega) F
        · rw [h] at F
          have u1 := o4 h
          exact pl_11 a hs t0 t1 j0 (by omega) F u1.1 u1.2
      obtain ⟨b, V1, g1, g2, R1, R3⟩ := P
      by_cases hb : b = 0
      · refine ⟨j, V1, fun X hX => ?_, fun Y hY => ?_, R1⟩
        · rw [g1 X hX, if_pos hb]
        · rw [g2 Y hY, if_pos hb]
      · obtain ⟨r, V', h1, h2, R⟩ := ih (j + 1) V1 (by omega) (by omega) R1 (by rw [R3]; exact ht)
        refine ⟨r, V', fun X hX => ?_, fun Y hY => ?_, R⟩
        · rw [g1 X hX, if_neg hb, h1 X hX]
        · rw [g2 Y hY, if_neg hb, h2 Y hY]
    · refine ⟨-1, V, fun X' hX => ?_, fun Y hY => ?_, a⟩
      · rw [aq_291_26, hS_ob hs, ax_gt, mix_rd (reg_t (by omega)), st, c1.1, if_neg hl]
      · rw [aq_305_15, show am_ob 447 11 = true from rfl, ax_gt, kr_447_6 (mix_K a.1 hY), ax_a_451, ax_gi (by omega) (by omega), mix_rd (reg_f (by omega) (by omega)), c2.1, if_neg hl]
theorem mix_self {s : Bool} : mix s M M = M := Prod.ext rfl (by funext c i; exact ite_self _)
theorem op_played (a : RR M) {t : Int} : OP d M 291 305 [(0, t)] := by
  have hK := a.1
  have g := a.2.1.1
  have bb := a.2.1.2.1
  have n3 : am_rd M 2 11 = am_rd M 448 3 := g.1.2.2.2.1
  have b3 := bb.1.2.2.2.1
  by_cases ht : 0 ≤ t ∧ t < am_rd M 448 3
  · have hs : hS (15 + 6 * t) := by unfold hS; omega
    obtain ⟨r, V', h1, h2, R⟩ := pl_all (d := d) (s := 15 + 6 * t) ht.1 (by omega) hs rfl 25 0 M (by omega) (by omega) a ht.2
    have K' := R.1
    have e1 := h1 M hK
    rw [mix_self] at e1
    have e2 := h2 (mix true V' M) (mix_K K' hK)
    have m1 : mix false M (mix true V' M) = mix true V' M := by
      refine Prod.ext (hK.1.trans K'.1.symm) ?_
      funext c i
      show (if reg false c = true then M.2 c i else (if reg true c = true then V'.2 c i else M.2 c i)) = (if reg true c = true then V'.2 c i else M.2 c i)
      by_cases e : reg false c = true
      · rw [if_pos e, reg_x e, if_neg (by decide)]
      · rw [if_neg e]
    rw [m1] at e2
    have kt : am_rd M 14 t = 15 + 6 * t := by
      have h := hK.2 14 t (by show (decide (0 ≤ t) && decide (t < 4)) = true; rw [decide_eq_true ht.1, decide_eq_true (by omega)]; rfl)
      exact h
    refine ⟨r, mix true V' M, mix false V' (mix true V' M), ?_, ?_, ?_⟩
    · rw [aq_291, kr_1_0 hK, show am_ob 1 10 = true from rfl, show am_ob 2 2 = true from rfl, ax_gt, ax_gt, c_10 hK, n3, ax_bt ht, Option.bind_some]
      dsimp only []
      rw [if_neg (by decide), kr_1_6 hK, show am_ia 14 = true from rfl, ax_gt, show am_ln 14 = 4 from rfl, if_pos (by omega), ax_q_14, ax_gi (by omega) (by omega), kt, if_neg (by omega), ax_let]
      exact e1
    · rw [aq_305, show am_ob 447 11 = true from rfl, ax_gt, kr_447_0 (mix_K K' hK), ax_a_448, ax_gi (by omega) (by omega)]
      have g3 : am_rd (mix true V' M) 448 3 = am_rd M 448 3 := @if_neg (reg true 448 = true) _ (by decide) Int (V'.2 448 3) (M.2 448 3)
      rw [g3, ax_w32 (by omega) (by omega), m_64, ax_bt (by omega), Option.bind_some]
      dsimp only []
      rw [if_neg (by decide)]
      exact e2
    · have e : ∀ c i, am_rd (mix false V' (mix true V' M)) c i = if c < 484 then am_rd V' c i else am_rd M c i := fun c i => by
        show (if reg false c = true then V'.2 c i else (if reg true c = true then V'.2 c i else M.2 c i)) = if c < 484 then V'.2 c i else M.2 c i
        by_cases h : c < 447
        · rw [reg_t h, if_pos rfl, ite_self, if_pos (by omega)]
        · by_cases h4 : c < 484
          · rw [reg_f (by omega) h4, if_pos rfl, if_pos h4]
          · rw [if_neg (fun q => h4 (reg_b q)), if_neg (fun q => h4 (reg_b q)), if_neg h4]
      refine RR_same R (mix_K K' (mix_K K' hK)) fun c i h => ?_
      rw [e, if_pos (by unfold jk at h; omega)]
  · refine ⟨-2, M, M, ?_, ?_, a⟩
    · rw [aq_291, kr_1_0 hK, show am_ob 1 10 = true from rfl, show am_ob 2 2 = true from rfl, ax_gt, ax_gt, c_10 hK, n3, ax_bf ht, Option.bind_some]
      dsimp only []
      rw [if_pos rfl]
    · rw [aq_305, show am_ob 447 11 = true from rfl, ax_gt, kr_447_0 hK, ax_a_448, ax_gi (by omega) (by omega), ax_w32 (by omega) (by omega), m_64, ax_bf (by omega), Option.bind_some]
      dsimp only []
      rw [if_pos rfl]
end
