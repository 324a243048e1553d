/-! played: small ones -/
def bo_P (g : am_X) : Prop := ∀ d y i ls st m r, am_rk y = 2 → g d y i ls st m = some r → r.1 = 0 ∨ r.1 = 1
theorem bo_F {g : am_X} (H : bo_P g) : bo_P (am_F g) := by
  intro d y i ls st m r hy hr
  unfold am_F at hr
  generalize am_at y i = e at hr
  obtain ⟨k, pc, n, q, a, b, w, x⟩ := e
  match k, hr with
  | 0, hr => obtain ⟨u, h1, h2⟩ := Option.bind_eq_some_iff.mp hr; exact H _ _ _ _ _ _ _ hy h2
  | 1, hr => obtain ⟨u, h1, h2⟩ := Option.bind_eq_some_iff.mp hr; exact H _ _ _ _ _ _ _ hy h2
  | 2, hr => obtain ⟨u, h1, h2⟩ := Option.bind_eq_some_iff.mp hr; exact H _ _ _ _ _ _ _ hy h2
  | 3, hr =>
    replace hr : am_F3 g d y i q a.toNat b.toNat ls st m = some r := hr
    unfold am_F3 at hr
    split at hr
    · obtain ⟨u, h1, h2⟩ := Option.bind_eq_some_iff.mp hr
      obtain ⟨v, h3, h4⟩ := Option.bind_eq_some_iff.mp h2
      exact H _ _ _ _ _ _ _ hy h4
    · cases hr
  | 4, hr =>
    replace hr : am_ret q y st m = some r := hr
    unfold am_ret at hr
    rw [hy] at hr
    split at hr
    · cases hr
    · split at hr
      · rename_i hc
        cases hr
        rcases Bool.or_eq_true_iff.mp (show (_ == (0 : Int) || _ == (1 : Int)) = true from hc) with h | h
        · exact Or.inl (eq_of_beq h)
        · exact Or.inr (eq_of_beq h)
      · cases hr
    · cases hr
    · cases hr
    · cases hr
  | 5, hr => exact H _ _ _ _ _ _ _ hy hr
  | 6, hr =>
    replace hr : am_F6 g d y i q ls st m = some r := hr
    unfold am_F6 at hr
    split at hr
    all_goals first | (split at hr <;> first | exact H _ _ _ _ _ _ _ hy hr | cases hr) | cases hr
  | 7, hr => exact H _ _ _ _ _ _ _ hy hr
  | 8, hr =>
    replace hr : am_F8 g d y i ls st m = some r := hr
    unfold am_F8 at hr
    split at hr
    all_goals first | (split at hr <;> first | exact H _ _ _ _ _ _ _ hy hr | cases hr) | cases hr
  | 9, hr =>
    replace hr : am_F9 g d y i ls st m = some r := hr
    unfold am_F9 at hr
    split at hr
    · split at hr
      · exact H _ _ _ _ _ _ _ hy hr
      · cases hr
    · cases hr
  | 10, hr =>
    replace hr : am_F10 g d y i a ls st m = some r := hr
    unfold am_F10 at hr
    split at hr
    all_goals first | (split at hr <;> first | exact H _ _ _ _ _ _ _ hy hr | cases hr) | cases hr
  | 11, hr => obtain ⟨u, h1, h2⟩ := Option.bind_eq_some_iff.mp hr; exact H _ _ _ _ _ _ _ hy h2
  | n + 12, hr => cases hr
theorem bo_ex (f : Nat) : bo_P (am_exec f) := by
  induction f with
  | zero => intro d y i ls st m r _ h; cases h
  | succ f ih => exact bo_F ih
/-- what tells yes or no gives 1 or 0 -/
theorem bo_call {d y : Nat} {as : List am_V} {m n : am_M} {r : Int} (hy : am_rk y = 2) (h : am_Call d y as m = some (r, n)) : r = 0 ∨ r = 1 := by
  obtain ⟨f, hf⟩ := am_Ex_to h
  exact bo_ex f d y 0 _ _ m (r, n) hy hf
theorem mix_K {s : Bool} {V X : am_M} (h : ax_K V) (k : ax_K X) : ax_K (mix s V X) := ⟨h.1, fun c i e => by
  show (if reg s c = true then V.2 c i else X.2 c i) = _
  split
  · exact h.2 c i e
  · exact k.2 c i e⟩
section
variable {M : am_M} {d : Nat} {s j : Int}
def hS (s : Int) : Prop := s = 15 ∨ s = 21 ∨ s = 27 ∨ s = 33
theorem c_57s (hK : ax_K M) (hs : hS s) (j0 : 0 ≤ j) (j1 : j < 24) : am_Call d 57 [(2, s), (0, j)] M = some (am_rd M (s + 4) j, M) := by
  rcases hs with rfl | rfl | rfl | rfl
  all_goals
    rw [aq_57, if_neg (by omega), if_pos (by omega)]
    simp (disch := first | assumption | omega) only [ax_gt, ax_gi, Option.bind_some, ax_gbl, ax_gb2, ax_gd, Int.reduceEq, Int.reduceNe, Int.reduceLT, Int.reduceLE, Int.reduceAdd, Int.reduceSub, Int.reduceMul, Int.reduceNeg, reduceIte, ite_true, ite_false, true_and, and_true, false_and, and_false, true_or, or_true, false_or, or_false, not_true_eq_false, not_false_eq_true, and_self, or_self, eq_self, ite_self, decide_true, decide_false, Bool.true_and, Bool.and_true, Bool.and_self, Bool.false_and, Int.add_zero, Int.zero_add, ax_o_15, kr_15_0, kr_15_2, kr_15_3, kr_15_4, kr_15_5, ax_a_16, ax_a_17, ax_a_18, ax_a_19, ax_a_20, ax_o_21, kr_21_0, kr_21_2, kr_21_3, kr_21_4, kr_21_5, ax_a_22, ax_a_23, ax_a_24, ax_a_25, ax_a_26, ax_o_27, kr_27_0, kr_27_2, kr_27_3, kr_27_4, kr_27_5, ax_a_28, ax_a_29, ax_a_30, ax_a_31, ax_a_32, ax_o_33, kr_33_0, kr_33_2, kr_33_3, kr_33_4, kr_33_5, ax_a_34, ax_a_35, ax_a_36, ax_a_37, ax_a_38]
theorem c_58s {w : Int} (hK : ax_K M) (hs : hS s) (j0 : 0 ≤ j) (j1 : j < 24) (w0 : 0 ≤ w) (w1 : w < 3) : am_Call d 58 [(2, s), (0, j), (0, w)] M = some (am_rd M (s + 5) (3 * j + w), M) := by
  have e1 : am_w32 (j * 3) = j * 3 := ax_w32 (by omega) (by omega)
  have e2 : am_w32 (j * 3 + w) = j * 3 + w := ax_w32 (by omega) (by omega)
  have e3 : j * 3 + w = 3 * j + w := by omega
  rcases hs with rfl | rfl | rfl | rfl
  · rw [aq_58, e1, e2, ax_let, e3, if_neg (by omega), kr_15_5 hK, show am_ob 15 8 = true from rfl, ax_gt, show am_ia 20 = true from rfl, ax_gt, show am_ln 20 = 72 from rfl, if_pos (by omega), ax_a_20, ax_gi (by omega) (by omega)]
    rfl
  · rw [aq_58, e1, e2, ax_let, e3, if_neg (by omega), kr_21_5 hK, show am_ob 21 8 = true from rfl, ax_gt, show am_ia 26 = true from rfl, ax_gt, show am_ln 26 = 72 from rfl, if_pos (by omega), ax_a_26, ax_gi (by omega) (by omega)]
    rfl
  · rw [aq_58, e1, e2, ax_let, e3, if_neg (by omega), kr_27_5 hK, show am_ob 27 8 = true from rfl, ax_gt, show am_ia 32 = true from rfl, ax_gt, show am_ln 32 = 72 from rfl, if_pos (by omega), ax_a_32, ax_gi (by omega) (by omega)]
    rfl
  · rw [aq_58, e1, e2, ax_let, e3, if_neg (by omega), kr_33_5 hK, show am_ob 33 8 = true from rfl, ax_gt, show am_ia 38 = true from rfl, ax_gt, show am_ln 38 = 72 from rfl, if_pos (by omega), ax_a_38, ax_gi (by omega) (by omega)]
    rfl
theorem hS_ob (hs : hS s) : am_ob s 8 = true := by
  rcases hs with rfl | rfl | rfl | rfl <;> rfl
theorem hS_b (hs : hS s) : 15 ≤ s ∧ s ≤ 33 := by
  unfold hS at hs
  omega
/-- the developers' step behind a deed -/
theorem c_291d {b : Int} {M' : am_M} (hK : ax_K M) (hs : hS s) (j0 : 0 ≤ j) (j1 : j < 24) (hl : j < am_rd M s 6) (hk : am_rd M (s + 4) j ≠ 11) (h : am_Call d 278 [(2, 1), (2, s), (0, j)] M = some (b, M')) : am_Ex d 291 26 [(2, 1), am_N, (2, s), (0, j), am_N] [] M = if b = 0 then some (j, M') else am_Ex d 291 26 [(2, 1), am_N, (2, s), (0, j + 1), am_N] [] M' := by
  rw [aq_291_26, hS_ob hs, ax_gt, if_pos hl, c_57s hK hs j0 j1, Option.bind_some]
  dsimp only []
  rw [if_neg hk, if_pos rfl, show am_ob 1 10 = true from rfl, ax_gt, h, Option.bind_some]
  dsimp only []
  by_cases e : b = 0
  · rw [if_pos e, if_pos e]
  · rw [if_neg e, if_neg e, aq_291_58, ax_w32 (by omega) (by omega), ax_let]
theorem c_291n {b k : Int} {M' : am_M} (hK : ax_K M) (hs : hS s) (j0 : 0 ≤ j) (j1 : j < 24) (hl : j < am_rd M s 6) (hk : am_rd M (s + 4) j = 11) (hn : am_rd M (s + 5) (3 * j) = k) (h : am_Call d 277 [(2, 1), (0, k)] M = some (b, M')) : am_Ex d 291 26 [(2, 1), am_N, (2, s), (0, j), am_N] [] M = if b = 0 then some (j, M') else am_Ex d 291 26 [(2, 1), am_N, (2, s), (0, j + 1), am_N] [] M' := by
  have e58 := c_58s (d := d) (w := 0) hK hs j0 j1 (by omega) (by omega)
  rw [Int.add_zero, hn] at e58
  rw [aq_291_26, hS_ob hs, ax_gt, if_pos hl, c_57s hK hs j0 j1, Option.bind_some]
  dsimp only []
  rw [if_pos hk, if_neg (by decide), e58, Option.bind_some]
  dsimp only []
  rw [show am_ob 1 10 = true from rfl, ax_gt, h, Option.bind_some]
  dsimp only []
  by_cases e : b = 0
  · rw [if_pos e, if_pos e]
  · rw [if_neg e, if_neg e, aq_291_58, ax_w32 (by omega) (by omega), ax_let]
theorem m_305e {b t : Int} (j0 : 0 ≤ j) (j1 : j < 24) : am_Ex d 305 139 [(2, 447), (0, t), (0, j), am_N, am_N, am_N, (0, b)] [] M = if b = 0 then some (j, M) else am_Ex d 305 15 [(2, 447), (0, t), (0, j + 1), am_N, am_N, am_N, am_N] [] M := by
  rw [aq_305_139]
  by_cases e : b = 0
  · rw [if_pos e, if_pos e]
  · rw [if_neg e, if_neg e, ax_w32 (by omega) (by omega), ax_let]
end
