/-! THE LAWS, as numbers. A row of code: (what, how much) -/
def lx_bd (v : Int) : Int := if v > 1000000 then 1000000 else if v < -1000000 then -1000000 else v
def lx_2 (o a b : Int) : Int := if o = 43 then lx_bd (a + b) else if o = 45 then lx_bd (a - b) else if o = 42 then lx_bd (a * b) else if o = 47 then (if b = 0 then 0 else Int.tdiv a b) else if o = 60 then ax_b (a < b) else if o = 62 then ax_b (b < a) else if o = 61 then ax_b (a = b) else if o = 35 then ax_b (¬ a = b) else if o = 300 then ax_b (a ≤ b) else if o = 301 then ax_b (b ≤ a) else if o = 406 then a * b else ax_b (0 < a + b)
def lx_r1 (s r b : Int) : Int := if (r + b) * (r + b) ≤ s then r + b else r
def lx_rs (s : Int) : Int := lx_r1 s (lx_r1 s (lx_r1 s (lx_r1 s (lx_r1 s (lx_r1 s (lx_r1 s (lx_r1 s (lx_r1 s (lx_r1 s 0 512) 256) 128) 64) 32) 16) 8) 4) 2) 1
def lx_rt (v : Int) : Int := if v < 0 then -(lx_rs (-v)) else lx_rs v
def lx_1 (o v : Int) : Int := if o = 402 then -v else if o = 403 then lx_rt v else 1 - v
def lx_s (N : Int → Int) (st : List Int) (x : Int × Int) : List Int :=
  if x.1 = 400 then x.2 :: st else if x.1 = 401 then N x.2 :: st else
  match st with
  | [] => []
  | b :: r => if x.1 = 402 ∨ x.1 = 403 ∨ x.1 = 405 then lx_1 x.1 b :: r else match r with
    | [] => []
    | a :: r => lx_2 x.1 a b :: r
def lx_may (k v : Int) : Bool := decide (0 ≤ v) && (decide (v < 5) || (decide (v = 5) && (decide (k = 1) || decide (k = 2))) || (decide (v = 8) && decide (k = 3)) || ((decide (v = 6) || decide (v = 7)) && decide (k = 1)))
def lx_t (k : Int) (ts : List Bool) (x : Int × Int) : Option (List Bool) :=
  if x.1 = 400 then (if 0 ≤ x.2 ∧ x.2 ≤ 9999 ∧ ts.length < 60 then some (false :: ts) else none) else
  if x.1 = 401 then (if lx_may k x.2 = true ∧ ts.length < 60 then some (false :: ts) else none) else
  match ts with
  | [] => none
  | b :: r => if x.1 = 402 ∨ x.1 = 403 then (if b = false then some (false :: r) else none) else if x.1 = 405 then (if b = true then some (true :: r) else none) else match r with
    | [] => none
    | a :: r => if x.1 = 406 ∨ x.1 = 407 then (if a = true ∧ b = true then some (true :: r) else none) else if x.1 = 43 ∨ x.1 = 45 ∨ x.1 = 42 ∨ x.1 = 47 then (if a = false ∧ b = false then some (false :: r) else none) else if x.1 = 60 ∨ x.1 = 62 ∨ x.1 = 61 ∨ x.1 = 35 ∨ x.1 = 300 ∨ x.1 = 301 then (if a = false ∧ b = false then some (true :: r) else none) else none
/-- the types of what is on the stack behind a code -/
def lx_T (k : Int) : List Bool → List (Int × Int) → Option (List Bool)
  | ts, [] => some ts
  | ts, x :: c => (lx_t k ts x).bind fun ts' => lx_T k ts' c
def lx_E (N : Int → Int) (st : List Int) (c : List (Int × Int)) : List Int := c.foldl (lx_s N) st
/-- a law's code is well made -/
def lx_ok (k : Int) (c : List (Int × Int)) : Prop := lx_T k [] c = some [decide (k = 0)]
def lx_v (t : Bool) (v : Int) : Prop := if t = true then 0 ≤ v ∧ v ≤ 1 else -1000000 ≤ v ∧ v ≤ 1000000
def lx_V : List Bool → List Int → Prop
  | [], [] => True
  | t :: ts, v :: vs => lx_v t v ∧ lx_V ts vs
  | _, _ => False
theorem lx_V_len : ∀ {ts : List Bool} {vs : List Int}, lx_V ts vs → ts.length = vs.length := by
  intro ts
  induction ts with
  | nil => intro vs h; cases vs with
    | nil => rfl
    | cons v vs => exact h.elim
  | cons t ts ih => intro vs h; cases vs with
    | nil => exact h.elim
    | cons v vs => show ts.length + 1 = vs.length + 1; rw [ih h.2]
/-- names are no greater than a thousand or so -/
def lx_N (N : Int → Int) : Prop := ∀ j, 0 ≤ j → j ≤ 8 → -1 ≤ N j ∧ N j ≤ 1300
theorem lx_sq {x n : Int} (h0 : 0 ≤ x) (h1 : x ≤ n) : x * x ≤ n * n := Int.mul_le_mul h1 h1 h0 (by omega)
theorem lx_sq0 {x : Int} (h0 : 0 ≤ x) : 0 ≤ x * x := Int.mul_nonneg h0 h0
theorem lx_r1r {s r b n : Int} (h0 : 0 ≤ r) (h1 : r ≤ n) (hb : 0 ≤ b) : 0 ≤ lx_r1 s r b ∧ lx_r1 s r b ≤ n + b := by
  unfold lx_r1
  split <;> omega
theorem lx_rsr (s : Int) : 0 ≤ lx_rs s ∧ lx_rs s ≤ 1023 := by
  unfold lx_rs
  have h1 := lx_r1r (s := s) (r := 0) (b := 512) (n := 0) (by omega) (by omega) (by omega)
  have h2 := lx_r1r (s := s) (b := 256) h1.1 h1.2 (by omega)
  have h3 := lx_r1r (s := s) (b := 128) h2.1 h2.2 (by omega)
  have h4 := lx_r1r (s := s) (b := 64) h3.1 h3.2 (by omega)
  have h5 := lx_r1r (s := s) (b := 32) h4.1 h4.2 (by omega)
  have h6 := lx_r1r (s := s) (b := 16) h5.1 h5.2 (by omega)
  have h7 := lx_r1r (s := s) (b := 8) h6.1 h6.2 (by omega)
  have h8 := lx_r1r (s := s) (b := 4) h7.1 h7.2 (by omega)
  have h9 := lx_r1r (s := s) (b := 2) h8.1 h8.2 (by omega)
  have h10 := lx_r1r (s := s) (b := 1) h9.1 h9.2 (by omega)
  exact ⟨h10.1, by omega⟩
theorem lx_rtr (v : Int) : -1023 ≤ lx_rt v ∧ lx_rt v ≤ 1023 := by
  unfold lx_rt
  have h1 := lx_rsr v
  have h2 := lx_rsr (-v)
  split <;> omega
theorem lx_bdr (v : Int) : -1000000 ≤ lx_bd v ∧ lx_bd v ≤ 1000000 := by
  unfold lx_bd
  split
  · omega
  · split <;> omega
theorem lx_tdr {a b : Int} (h : -1000000 ≤ a ∧ a ≤ 1000000) : -1000000 ≤ Int.tdiv a b ∧ Int.tdiv a b ≤ 1000000 := by
  have h1 : (Int.tdiv a b).natAbs ≤ a.natAbs := by
    rw [Int.natAbs_tdiv]
    exact Nat.div_le_self _ _
  omega
theorem lx_2r {o a b : Int} (ha : -1000000 ≤ a ∧ a ≤ 1000000) (h : o = 43 ∨ o = 45 ∨ o = 42 ∨ o = 47) : -1000000 ≤ lx_2 o a b ∧ lx_2 o a b ≤ 1000000 := by
  unfold lx_2
  have h1 := lx_bdr (a + b)
  have h2 := lx_bdr (a - b)
  have h3 := lx_bdr (a * b)
  have h4 := lx_tdr (b := b) ha
  rcases h with rfl | rfl | rfl | rfl
  · simpa using h1
  · simpa using h2
  · simpa using h3
  · simp only [Int.reduceEq, Int.reduceNe, Int.reduceLT, Int.reduceLE, Int.reduceAdd, Int.reduceSub, Int.reduceMul, Int.reduceNeg, reduceIte, ite_true, ite_false, true_and, and_true, false_and, and_false, true_or, or_true, false_or, or_false, not_true_eq_false, not_false_eq_true, and_self, or_self, eq_self, ite_self, decide_true, decide_false, Bool.true_and, Bool.and_true, Bool.and_self, Bool.false_and]
    split <;> omega
theorem lx_2c {o a b : Int} (h : o = 60 ∨ o = 62 ∨ o = 61 ∨ o = 35 ∨ o = 300 ∨ o = 301) : 0 ≤ lx_2 o a b ∧ lx_2 o a b ≤ 1 := by
  unfold lx_2
  rcases h with rfl | rfl | rfl | rfl | rfl | rfl <;> simp only [Int.reduceEq, Int.reduceNe, Int.reduceLT, Int.reduceLE, Int.reduceAdd, Int.reduceSub, Int.reduceMul, Int.reduceNeg, reduceIte, ite_true, ite_false, true_and, and_true, false_and, and_false, true_or, or_true, false_or, or_false, not_true_eq_false, not_false_eq_true, and_self, or_self, eq_self, ite_self, decide_true, decide_false, Bool.true_and, Bool.and_true, Bool.and_self, Bool.false_and] <;> exact ax_br
theorem lx_2b {o a b : Int} (ha : 0 ≤ a ∧ a ≤ 1) (hb : 0 ≤ b ∧ b ≤ 1) (h : o = 406 ∨ o = 407) : 0 ≤ lx_2 o a b ∧ lx_2 o a b ≤ 1 := by
  unfold lx_2
  have a2 : a = 0 ∨ a = 1 := by omega
  have b2 : b = 0 ∨ b = 1 := by omega
  rcases h with rfl | rfl
  · rcases a2 with rfl | rfl <;> rcases b2 with rfl | rfl <;> simp
  · simp only [Int.reduceEq, Int.reduceNe, Int.reduceLT, Int.reduceLE, Int.reduceAdd, Int.reduceSub, Int.reduceMul, Int.reduceNeg, reduceIte, ite_true, ite_false, true_and, and_true, false_and, and_false, true_or, or_true, false_or, or_false, not_true_eq_false, not_false_eq_true, and_self, or_self, eq_self, ite_self, decide_true, decide_false, Bool.true_and, Bool.and_true, Bool.and_self, Bool.false_and]; exact ax_br
/-- one row keeps the types -/
theorem lx_step {k : Int} {ts ts' : List Bool} {vs : List Int} {x : Int × Int} {N : Int → Int} (hN : lx_N N) (hV : lx_V ts vs) (ht : lx_t k ts x = some ts') : lx_V ts' (lx_s N vs x) := by
  unfold lx_t at ht
  unfold lx_s
  by_cases h1 : x.1 = 400
  · rw [if_pos h1] at ht ⊢
    split at ht
    · cases ht
      rename_i h
      exact ⟨show -1000000 ≤ x.2 ∧ x.2 ≤ 1000000 by omega, hV⟩
    · cases ht
  rw [if_neg h1] at ht ⊢
  by_cases h2 : x.1 = 401
  · rw [if_pos h2] at ht ⊢
    split at ht
    · cases ht
      rename_i h
      have hm := h.1
      unfold lx_may at hm
      simp only [Bool.and_eq_true, Bool.or_eq_true, decide_eq_true_eq] at hm
      have := hN x.2 (by omega) (by omega)
      exact ⟨show -1000000 ≤ N x.2 ∧ N x.2 ≤ 1000000 by omega, hV⟩
    · cases ht
  rw [if_neg h2] at ht ⊢
  cases ts with
  | nil => cases ht
  | cons b r =>
    cases vs with
    | nil => exact hV.elim
    | cons vb vr =>
      obtain ⟨hb, hr⟩ := hV
      dsimp only at ht ⊢
      by_cases h3 : x.1 = 402 ∨ x.1 = 403
      · rw [if_pos h3] at ht
        rw [if_pos (by omega)]
        split at ht
        · cases ht
          rename_i h
          subst h
          have hb : -1000000 ≤ vb ∧ vb ≤ 1000000 := hb
          have := lx_rtr vb
          refine ⟨show -1000000 ≤ lx_1 x.1 vb ∧ lx_1 x.1 vb ≤ 1000000 from ?_, hr⟩
          unfold lx_1
          rcases h3 with h3 | h3 <;> rw [h3] <;> simp only [Int.reduceEq, Int.reduceNe, Int.reduceLT, Int.reduceLE, Int.reduceAdd, Int.reduceSub, Int.reduceMul, Int.reduceNeg, reduceIte, ite_true, ite_false, true_and, and_true, false_and, and_false, true_or, or_true, false_or, or_false, not_true_eq_false, not_false_eq_true, and_self, or_self, eq_self, ite_self, decide_true, decide_false, Bool.true_and, Bool.and_true, Bool.and_self, Bool.false_and] <;> omega
        · cases ht
      rw [if_neg h3] at ht
      by_cases h4 : x.1 = 405
      · rw [if_pos h4] at ht
        rw [if_pos (by omega)]
        split at ht
        · cases ht
          rename_i h
          subst h
          have hb : 0 ≤ vb ∧ vb ≤ 1 := hb
          refine ⟨show 0 ≤ lx_1 x.1 vb ∧ lx_1 x.1 vb ≤ 1 from ?_, hr⟩
          unfold lx_1
          rw [h4]
          simp only [Int.reduceEq, Int.reduceNe, Int.reduceLT, Int.reduceLE, Int.reduceAdd, Int.reduceSub, Int.reduceMul, Int.reduceNeg, reduceIte, ite_true, ite_false, true_and, and_true, false_and, and_false, true_or, or_true, false_or, or_false, not_true_eq_false, not_false_eq_true, and_self, or_self, eq_self, ite_self, decide_true, decide_false, Bool.true_and, Bool.and_true, Bool.and_self, Bool.false_and]
          omega
        · cases ht
      rw [if_neg h4] at ht
      rw [if_neg (by omega)]
      cases r with
      | nil => cases ht
      | cons a r =>
        cases vr with
        | nil => exact hr.elim
        | cons va vr =>
          obtain ⟨ha, hr⟩ := hr
          dsimp only at ht ⊢
          by_cases h5 : x.1 = 406 ∨ x.1 = 407
          · rw [if_pos h5] at ht
            split at ht
            · cases ht
              rename_i h
              obtain ⟨rfl, rfl⟩ := h
              exact ⟨lx_2b ha hb h5, hr⟩
            · cases ht
          rw [if_neg h5] at ht
          by_cases h6 : x.1 = 43 ∨ x.1 = 45 ∨ x.1 = 42 ∨ x.1 = 47
          · rw [if_pos h6] at ht
            split at ht
            · cases ht
              rename_i h
              obtain ⟨rfl, rfl⟩ := h
              exact ⟨lx_2r ha h6, hr⟩
            · cases ht
          rw [if_neg h6] at ht
          split at ht
          · rename_i h7
            split at ht
            · cases ht
              rename_i h
              obtain ⟨rfl, rfl⟩ := h
              exact ⟨lx_2c h7, hr⟩
            · cases ht
          · cases ht
/-- names that a law doesn't have don't matter -/
theorem lx_s_congr {k : Int} {ts ts' : List Bool} {vs : List Int} {x : Int × Int} {N N' : Int → Int} (hN : ∀ j, lx_may k j = true → N j = N' j) (ht : lx_t k ts x = some ts') : lx_s N vs x = lx_s N' vs x := by
  unfold lx_t at ht
  unfold lx_s
  by_cases h1 : x.1 = 400
  · rw [if_pos h1, if_pos h1]
  rw [if_neg h1] at ht ⊢
  rw [if_neg h1]
  by_cases h2 : x.1 = 401
  · rw [if_pos h2] at ht ⊢
    rw [if_pos h2]
    split at ht
    · rename_i h
      rw [hN _ h.1]
    · cases ht
  · rw [if_neg h2, if_neg h2]
theorem lx_E_congr {k : Int} {N N' : Int → Int} (hN : ∀ j, lx_may k j = true → N j = N' j) : ∀ (c : List (Int × Int)) (ts ts' : List Bool) (vs : List Int), lx_T k ts c = some ts' → lx_E N vs c = lx_E N' vs c := by
  intro c
  induction c with
  | nil => intro ts ts' vs _; rfl
  | cons x c ih =>
    intro ts ts' vs h
    obtain ⟨t1, h1, h2⟩ := Option.bind_eq_some_iff.mp h
    show lx_E N (lx_s N vs x) c = lx_E N' (lx_s N' vs x) c
    rw [lx_s_congr hN h1]
    exact ih _ _ _ h2
/-- what a law says: k the law, c its code if there is one, N the names -/
def lx_val (k : Int) (c : Option (List (Int × Int))) (N : Int → Int) : Int := match c with
  | none => if k = 0 then ax_b (N 3 < N 2) else if k = 1 then 1 else if k = 3 then N 8 / 2 else 0
  | some c => if k = 0 then (lx_E N [] c).headD 0 else hcl (if k = 1 then -9 else 0) 99 ((lx_E N [] c).headD 0)
