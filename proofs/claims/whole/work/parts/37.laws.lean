/-! THE LAWS, as numbers. A row of code: (what, how much) -/
def lw_bd (v : Int) : Int := if v > 1000000 then 1000000 else if v < -1000000 then -1000000 else v
def lw_2 (o a b : Int) : Int := if o = 43 then lw_bd (a + b) else if o = 45 then lw_bd (a - b) else if o = 42 then lw_bd (a * b) else if o = 47 then (if b = 0 then 0 else Int.tdiv a b) else if o = 60 then ax_b (a < b) else if o = 62 then ax_b (b < a) else if o = 61 then ax_b (a = b) else if o = 35 then ax_b (¬ a = b) else if o = 300 then ax_b (a ≤ b) else if o = 301 then ax_b (b ≤ a) else if o = 406 then a * b else ax_b (0 < a + b)
def lw_r1 (s r b : Int) : Int := if (r + b) * (r + b) ≤ s then r + b else r
def lw_rs (s : Int) : Int := lw_r1 s (lw_r1 s (lw_r1 s (lw_r1 s (lw_r1 s (lw_r1 s (lw_r1 s (lw_r1 s (lw_r1 s (lw_r1 s 0 512) 256) 128) 64) 32) 16) 8) 4) 2) 1
def lw_rt (v : Int) : Int := if v < 0 then -(lw_rs (-v)) else lw_rs v
def lw_1 (o v : Int) : Int := if o = 402 then -v else if o = 403 then lw_rt v else 1 - v
def lw_s (N : Int → Int) (st : List Int) (x : Int × Int) : List Int :=
  if x.1 = 400 then x.2 :: st else if x.1 = 401 then N x.2 :: st else
  match st with
  | [] => []
  | b :: r => if x.1 = 402 ∨ x.1 = 403 ∨ x.1 = 405 then lw_1 x.1 b :: r else match r with
    | [] => []
    | a :: r => lw_2 x.1 a b :: r
def lw_may (k v : Int) : Bool := decide (0 ≤ v) && (decide (v < 5) || (decide (v = 5) && (decide (k = 1) || decide (k = 2))) || (decide (v = 8) && decide (k = 3)) || ((decide (v = 6) || decide (v = 7)) && decide (k = 1)))
def lw_t (k : Int) (ts : List Bool) (x : Int × Int) : Option (List Bool) :=
  if x.1 = 400 then (if 0 ≤ x.2 ∧ x.2 ≤ 9999 ∧ ts.length < 60 then some (false :: ts) else none) else
  if x.1 = 401 then (if lw_may k x.2 = true ∧ ts.length < 60 then some (false :: ts) else none) else
  match ts with
  | [] => none
  | b :: r => if x.1 = 402 ∨ x.1 = 403 then (if b = false then some (false :: r) else none) else if x.1 = 405 then (if b = true then some (true :: r) else none) else match r with
    | [] => none
    | a :: r => if x.1 = 406 ∨ x.1 = 407 then (if a = true ∧ b = true then some (true :: r) else none) else if x.1 = 43 ∨ x.1 = 45 ∨ x.1 = 42 ∨ x.1 = 47 then (if a = false ∧ b = false then some (false :: r) else none) else if x.1 = 60 ∨ x.1 = 62 ∨ x.1 = 61 ∨ x.1 = 35 ∨ x.1 = 300 ∨ x.1 = 301 then (if a = false ∧ b = false then some (true :: r) else none) else none
/-- the types of what is on the stack behind a code -/
def lw_T (k : Int) : List Bool → List (Int × Int) → Option (List Bool)
  | ts, [] => some ts
  | ts, x :: c => (lw_t k ts x).bind fun ts' => lw_T k ts' c
def lw_E (N : Int → Int) (st : List Int) (c : List (Int × Int)) : List Int := c.foldl (lw_s N) st
/-- a law's code is well made -/
def lw_ok (k : Int) (c : List (Int × Int)) : Prop := lw_T k [] c = some [decide (k = 0)]
def lw_v (t : Bool) (v : Int) : Prop := if t = true then 0 ≤ v ∧ v ≤ 1 else -1000000 ≤ v ∧ v ≤ 1000000
def lw_V : List Bool → List Int → Prop
  | [], [] => True
  | t :: ts, v :: vs => lw_v t v ∧ lw_V ts vs
  | _, _ => False
theorem lw_V_len : ∀ {ts : List Bool} {vs : List Int}, lw_V ts vs → ts.length = vs.length := by
  intro ts
  induction ts with
  | nil => intro vs h; cases vs with
    | nil => rfl
    | cons v vs => exact h.elim
  | cons t ts ih => intro vs h; cases vs with
    | nil => exact h.elim
    | cons v vs => show ts.length + 1 = vs.length + 1; rw [ih h.2]
/-- names are no greater than a thousand or so -/
def lw_N (N : Int → Int) : Prop := ∀ j, 0 ≤ j → j ≤ 8 → -1 ≤ N j ∧ N j ≤ 1300
theorem lw_sq {x y n : Int} (h0 : 0 ≤ x) (h1 : x ≤ n) : x * x ≤ n * n := Int.mul_le_mul h1 h1 h0 (by omega)
theorem lw_sq0 {x : Int} (h0 : 0 ≤ x) : 0 ≤ x * x := Int.mul_nonneg h0 h0
theorem lw_r1r {s r b n : Int} (h0 : 0 ≤ r) (h1 : r ≤ n) (hb : 0 ≤ b) : 0 ≤ lw_r1 s r b ∧ lw_r1 s r b ≤ n + b := by
  unfold lw_r1
  split <;> omega
theorem lw_rsr (s : Int) : 0 ≤ lw_rs s ∧ lw_rs s ≤ 1023 := by
  unfold lw_rs
  have h1 := lw_r1r (s := s) (r := 0) (b := 512) (n := 0) (by omega) (by omega) (by omega)
  have h2 := lw_r1r (s := s) (b := 256) h1.1 h1.2 (by omega)
  have h3 := lw_r1r (s := s) (b := 128) h2.1 h2.2 (by omega)
  have h4 := lw_r1r (s := s) (b := 64) h3.1 h3.2 (by omega)
  have h5 := lw_r1r (s := s) (b := 32) h4.1 h4.2 (by omega)
  have h6 := lw_r1r (s := s) (b := 16) h5.1 h5.2 (by omega)
  have h7 := lw_r1r (s := s) (b := 8) h6.1 h6.2 (by omega)
  have h8 := lw_r1r (s := s) (b := 4) h7.1 h7.2 (by omega)
  have h9 := lw_r1r (s := s) (b := 2) h8.1 h8.2 (by omega)
  have h10 := lw_r1r (s := s) (b := 1) h9.1 h9.2 (by omega)
  exact ⟨h10.1, by omega⟩
theorem lw_rtr (v : Int) : -1023 ≤ lw_rt v ∧ lw_rt v ≤ 1023 := by
  unfold lw_rt
  have h1 := lw_rsr v
  have h2 := lw_rsr (-v)
  split <;> omega
theorem lw_bdr (v : Int) : -1000000 ≤ lw_bd v ∧ lw_bd v ≤ 1000000 := by
  unfold lw_bd
  split
  · omega
  · split <;> omega
theorem lw_tdr {a b : Int} (h : -1000000 ≤ a ∧ a ≤ 1000000) : -1000000 ≤ Int.tdiv a b ∧ Int.tdiv a b ≤ 1000000 := by
  have h1 : (Int.tdiv a b).natAbs ≤ a.natAbs := by
    rw [Int.natAbs_tdiv]
    exact Nat.div_le_self _ _
  omega
theorem lw_2r {o a b : Int} (ha : -1000000 ≤ a ∧ a ≤ 1000000) (h : o = 43 ∨ o = 45 ∨ o = 42 ∨ o = 47) : -1000000 ≤ lw_2 o a b ∧ lw_2 o a b ≤ 1000000 := by
  unfold lw_2
  have h1 := lw_bdr (a + b)
  have h2 := lw_bdr (a - b)
  have h3 := lw_bdr (a * b)
  have h4 := lw_tdr (b := b) ha
  rcases h with rfl | rfl | rfl | rfl
  · simpa using h1
  · simpa using h2
  · simpa using h3
  · simp only [Int.reduceEq, Int.reduceNe, Int.reduceLT, Int.reduceLE, Int.reduceAdd, Int.reduceSub, Int.reduceMul, Int.reduceNeg, reduceIte, ite_true, ite_false, true_and, and_true, false_and, and_false, true_or, or_true, false_or, or_false, not_true_eq_false, not_false_eq_true, and_self, or_self, eq_self, ite_self]
    split <;> omega
theorem lw_2c {o a b : Int} (h : o = 60 ∨ o = 62 ∨ o = 61 ∨ o = 35 ∨ o = 300 ∨ o = 301) : 0 ≤ lw_2 o a b ∧ lw_2 o a b ≤ 1 := by
  unfold lw_2
  rcases h with rfl | rfl | rfl | rfl | rfl | rfl <;> simp only [Int.reduceEq, Int.reduceNe, Int.reduceLT, Int.reduceLE, Int.reduceAdd, Int.reduceSub, Int.reduceMul, Int.reduceNeg, reduceIte, ite_true, ite_false, true_and, and_true, false_and, and_false, true_or, or_true, false_or, or_false, not_true_eq_false, not_false_eq_true, and_self, or_self, eq_self, ite_self] <;> exact ax_br
theorem lw_2b {o a b : Int} (ha : 0 ≤ a ∧ a ≤ 1) (hb : 0 ≤ b ∧ b ≤ 1) (h : o = 406 ∨ o = 407) : 0 ≤ lw_2 o a b ∧ lw_2 o a b ≤ 1 := by
  unfold lw_2
  have a2 : a = 0 ∨ a = 1 := by omega
  have b2 : b = 0 ∨ b = 1 := by omega
  rcases h with rfl | rfl
  · rcases a2 with rfl | rfl <;> rcases b2 with rfl | rfl <;> simp
  · simp only [Int.reduceEq, Int.reduceNe, Int.reduceLT, Int.reduceLE, Int.reduceAdd, Int.reduceSub, Int.reduceMul, Int.reduceNeg, reduceIte, ite_true, ite_false, true_and, and_true, false_and, and_false, true_or, or_true, false_or, or_false, not_true_eq_false, not_false_eq_true, and_self, or_self, eq_self, ite_self]; exact ax_br
/-- one row keeps the types -/
theorem lw_step {k : Int} {ts ts' : List Bool} {vs : List Int} {x : Int × Int} {N : Int → Int} (hN : lw_N N) (hV : lw_V ts vs) (ht : lw_t k ts x = some ts') : lw_V ts' (lw_s N vs x) := by
  unfold lw_t at ht
  unfold lw_s
  by_cases h1 : x.1 = 400
  · rw [if_pos h1] at ht ⊢
    split at ht
    · cases ht
      rename_i h
      exact ⟨show -1000000 ≤ x.2 ∧ x.2 ≤ 1000000 by omega, hV⟩
    · cases ht
  rw [if_neg h1] at ht ⊢
  by_cases h2 : x.1 = 401
  · rw [if_pos h2] at ht ⊢
    split at ht
    · cases ht
      rename_i h
      have hm := h.1
      unfold lw_may at hm
      simp only [Bool.and_eq_true, Bool.or_eq_true, decide_eq_true_eq] at hm
      have := hN x.2 (by omega) (by omega)
      exact ⟨show -1000000 ≤ N x.2 ∧ N x.2 ≤ 1000000 by omega, hV⟩
    · cases ht
  rw [if_neg h2] at ht ⊢
  cases ts with
  | nil => cases ht
  | cons b r =>
    cases vs with
    | nil => exact hV.elim
    | cons vb vr =>
      obtain ⟨hb, hr⟩ := hV
      dsimp only at ht ⊢
      by_cases h3 : x.1 = 402 ∨ x.1 = 403
      · rw [if_pos h3] at ht
        rw [if_pos (by omega)]
        split at ht
        · cases ht
          rename_i h
          subst h
          have hb : -1000000 ≤ vb ∧ vb ≤ 1000000 := hb
          have := lw_rtr vb
          refine ⟨show -1000000 ≤ lw_1 x.1 vb ∧ lw_1 x.1 vb ≤ 1000000 from ?_, hr⟩
          unfold lw_1
          rcases h3 with h3 | h3 <;> rw [h3] <;> simp only [Int.reduceEq, Int.reduceNe, Int.reduceLT, Int.reduceLE, Int.reduceAdd, Int.reduceSub, Int.reduceMul, Int.reduceNeg, reduceIte, ite_true, ite_false, true_and, and_true, false_and, and_false, true_or, or_true, false_or, or_false, not_true_eq_false, not_false_eq_true, and_self, or_self, eq_self, ite_self] <;> omega
        · cases ht
      rw [if_neg h3] at ht
      by_cases h4 : x.1 = 405
      · rw [if_pos h4] at ht
        rw [if_pos (by omega)]
        split at ht
        · cases ht
          rename_i h
          subst h
          have hb : 0 ≤ vb ∧ vb ≤ 1 := hb
          refine ⟨show 0 ≤ lw_1 x.1 vb ∧ lw_1 x.1 vb ≤ 1 from ?_, hr⟩
          unfold lw_1
          rw [h4]
          simp only [Int.reduceEq, Int.reduceNe, Int.reduceLT, Int.reduceLE, Int.reduceAdd, Int.reduceSub, Int.reduceMul, Int.reduceNeg, reduceIte, ite_true, ite_false, true_and, and_true, false_and, and_false, true_or, or_true, false_or, or_false, not_true_eq_false, not_false_eq_true, and_self, or_self, eq_self, ite_self]
          omega
        · cases ht
      rw [if_neg h4] at ht
      rw [if_neg (by omega)]
      cases r with
      | nil => cases ht
      | cons a r =>
        cases vr with
        | nil => exact hr.elim
        | cons va vr =>
          obtain ⟨ha, hr⟩ := hr
          dsimp only at ht ⊢
          by_cases h5 : x.1 = 406 ∨ x.1 = 407
          · rw [if_pos h5] at ht
            split at ht
            · cases ht
              rename_i h
              obtain ⟨rfl, rfl⟩ := h
              exact ⟨lw_2b ha hb h5, hr⟩
            · cases ht
          rw [if_neg h5] at ht
          by_cases h6 : x.1 = 43 ∨ x.1 = 45 ∨ x.1 = 42 ∨ x.1 = 47
          · rw [if_pos h6] at ht
            split at ht
            · cases ht
              rename_i h
              obtain ⟨rfl, rfl⟩ := h
              exact ⟨lw_2r ha h6, hr⟩
            · cases ht
          rw [if_neg h6] at ht
          split at ht
          · rename_i h7
            split at ht
            · cases ht
              rename_i h
              obtain ⟨rfl, rfl⟩ := h
              exact ⟨lw_2c h7, hr⟩
            · cases ht
          · cases ht
/-- names that a law doesn't have don't matter -/
theorem lw_s_congr {k : Int} {ts ts' : List Bool} {vs : List Int} {x : Int × Int} {N N' : Int → Int} (hN : ∀ j, lw_may k j = true → N j = N' j) (ht : lw_t k ts x = some ts') : lw_s N vs x = lw_s N' vs x := by
  unfold lw_t at ht
  unfold lw_s
  by_cases h1 : x.1 = 400
  · rw [if_pos h1, if_pos h1]
  rw [if_neg h1] at ht ⊢
  rw [if_neg h1]
  by_cases h2 : x.1 = 401
  · rw [if_pos h2] at ht ⊢
    rw [if_pos h2]
    split at ht
    · rename_i h
      rw [hN _ h.1]
    · cases ht
  · rw [if_neg h2, if_neg h2]
theorem lw_E_congr {k : Int} {N N' : Int → Int} (hN : ∀ j, lw_may k j = true → N j = N' j) : ∀ (c : List (Int × Int)) (ts ts' : List Bool) (vs : List Int), lw_T k ts c = some ts' → lw_E N vs c = lw_E N' vs c := by
  intro c
  induction c with
  | nil => intro ts ts' vs _; rfl
  | cons x c ih =>
    intro ts ts' vs h
    obtain ⟨t1, h1, h2⟩ := Option.bind_eq_some_iff.mp h
    show lw_E N (lw_s N vs x) c = lw_E N' (lw_s N' vs x) c
    rw [lw_s_congr hN h1]
    exact ih _ _ _ h2
/-- what a law says: k the law, c its code if there is one, N the names -/
def lw_val (k : Int) (c : Option (List (Int × Int))) (N : Int → Int) : Int := match c with
  | none => if k = 0 then ax_b (N 3 < N 2) else if k = 1 then 1 else if k = 3 then N 8 / 2 else 0
  | some c => if k = 0 then (lw_E N [] c).headD 0 else hcl (if k = 1 then -9 else 0) 99 ((lw_E N [] c).headD 0)
