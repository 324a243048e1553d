/-! wrongs: digits -/
def dgt (c : Int) : Nat → Int → Int
  | 0, p => p % c
  | e + 1, p => dgt c e (p / c)
def clz (c : Int) : Nat → Int → Int
  | 0, _ => 0
  | e + 1, p => clz c e (p / c) + (if p % c = 0 then 0 else 1)
theorem dgt_r {c : Int} (c0 : 0 < c) : ∀ (e : Nat) (p : Int), 0 ≤ dgt c e p ∧ dgt c e p < c := by
  intro e
  induction e with
  | zero => intro p; exact ⟨Int.emod_nonneg p (by omega), Int.emod_lt_of_pos p c0⟩
  | succ e ih => intro p; exact ih (p / c)
theorem clz_r {c : Int} : ∀ (e : Nat) (p : Int), 0 ≤ clz c e p ∧ clz c e p ≤ (e : Int) := by
  intro e
  induction e with
  | zero => intro p; exact ⟨Int.le_refl _, Int.le_refl _⟩
  | succ e ih =>
    intro p
    have := ih (p / c)
    show 0 ≤ clz c e (p / c) + (if p % c = 0 then 0 else 1) ∧ clz c e (p / c) + (if p % c = 0 then 0 else 1) ≤ ((e + 1 : Nat) : Int)
    split <;> omega
theorem dv_lo {c q : Int} (c0 : 0 < c) (c9 : c ≤ 9) (h : q % c + 1 < c) : (q + 1) / c = q / c ∧ (q + 1) % c = q % c + 1 := by
  have hc : c = 1 ∨ c = 2 ∨ c = 3 ∨ c = 4 ∨ c = 5 ∨ c = 6 ∨ c = 7 ∨ c = 8 ∨ c = 9 := by omega
  rcases hc with rfl | rfl | rfl | rfl | rfl | rfl | rfl | rfl | rfl <;> omega
theorem dv_hi {c q : Int} (c0 : 0 < c) (c9 : c ≤ 9) (h : ¬ q % c + 1 < c) : (q + 1) / c = q / c + 1 ∧ (q + 1) % c = 0 := by
  have hc : c = 1 ∨ c = 2 ∨ c = 3 ∨ c = 4 ∨ c = 5 ∨ c = 6 ∨ c = 7 ∨ c = 8 ∨ c = 9 := by omega
  rcases hc with rfl | rfl | rfl | rfl | rfl | rfl | rfl | rfl | rfl <;> omega
theorem ax_fo_snoc {α : Type} {f : Int → α → α} : ∀ (n : Nat) (k : Int) (a : α), ax_fo f (n + 1) k a = f (k + n) (ax_fo f n k a) := by
  intro n
  induction n with
  | zero => intro k a; show f k a = f (k + ((0 : Nat) : Int)) a; rw [show k + ((0 : Nat) : Int) = k by omega]
  | succ n ih =>
    intro k a
    show ax_fo f (n + 1) (k + 1) (f k a) = f (k + ((n + 1 : Nat) : Int)) (ax_fo f n (k + 1) (f k a))
    rw [ih, show k + 1 + (n : Int) = k + ((n + 1 : Nat) : Int) by omega]
def czF (c e p j s : Int) : Int := if dgt c (e - 1 - j).toNat p = 0 then s + 0 else s + 1
theorem clz_up {c : Int} : ∀ (e : Nat) (p : Int), ax_fo (czF c (e : Int) p) e 0 0 = clz c e p := by
  intro e
  induction e with
  | zero => intro p; rfl
  | succ e ih =>
    intro p
    rw [ax_fo_snoc]
    have h1 : ax_fo (czF c ((e + 1 : Nat) : Int) p) e 0 0 = ax_fo (czF c (e : Int) (p / c)) e 0 0 := ax_fo_congr _ _ _ fun j s j0 j1 => by
      have : (((e + 1 : Nat) : Int) - 1 - j).toNat = ((e : Int) - 1 - j).toNat + 1 := by omega
      unfold czF
      rw [this]
      rfl
    have h2 : (((e + 1 : Nat) : Int) - 1 - (0 + (e : Int))).toNat = 0 := by omega
    rw [h1, ih]
    unfold czF
    rw [h2]
    show (if p % c = 0 then clz c e (p / c) + 0 else clz c e (p / c) + 1) = clz c e (p / c) + (if p % c = 0 then 0 else 1)
    split <;> rfl
section
variable {M : am_M} {d : Nat} {c n p : Int}
/-- the plan p -/
def PLN (M : am_M) (c n p : Int) : Prop := ∀ j, 0 ≤ j → j < n → am_rd M 440 j = dgt c (n - 1 - j).toNat p
theorem c_2l (c0 : 0 < c) (c9 : c ≤ 9) : ∀ (e : Nat) (M : am_M) (q : Int), e ≤ 4 → ax_K M → (∀ j, 0 ≤ j → j < (e : Int) → am_rd M 440 j = dgt c ((e : Int) - 1 - j).toNat q) → ax_ok (am_Ex d 2 7 [(2, 424), am_N, (0, c), (0, (e : Int) - 1)] [] M) (fun _ M' => (∀ j, 0 ≤ j → j < (e : Int) → am_rd M' 440 j = dgt c ((e : Int) - 1 - j).toNat (q + 1)) ∧ (∀ j, (e : Int) ≤ j → am_rd M' 440 j = am_rd M 440 j) ∧ ∀ x i, x ≠ 440 → am_rd M' x i = am_rd M x i) := by
  intro e
  induction e with
  | zero =>
    intro M q _ hK h
    rw [aq_2_7, if_pos (by omega)]
    exact ax_ok_some ⟨fun j h0 h1 => by omega, fun _ _ => rfl, fun _ _ _ => rfl⟩
  | succ e ih =>
    intro M q he hK h
    have hx : ((e + 1 : Nat) : Int) - 1 = e := by omega
    have h0 := h e (by omega) (by omega)
    rw [show (((e + 1 : Nat) : Int) - 1 - (e : Int)).toNat = 0 by omega] at h0
    have h0 : am_rd M 440 e = q % c := h0
    have r0 := Int.emod_nonneg q (show c ≠ 0 by omega)
    have r1 := Int.emod_lt_of_pos q c0
    have K1 : ax_K (am_wr M 440 e (q % c + 1)) := ax_Kw hK rfl
    rw [hx, aq_2_7, if_neg (by omega), show am_ob 424 1 = true from rfl, ax_gt, kr_424_6 hK, ax_a_440, ax_gi (by omega) (by omega), h0, ax_w32 (x := q % c + 1) (by omega) (by omega), ax_let, kr_424_6 K1, ax_a_440, ax_gi (by omega) (by omega), ax_ws]
    by_cases hl : q % c + 1 < c
    · obtain ⟨d1, d2⟩ := dv_lo c0 c9 hl
      rw [if_pos hl]
      refine ax_ok_some ⟨fun j j0 j1 => ?_, fun j j0 => ax_wi (by omega), fun x i hx => ax_wc hx⟩
      by_cases ej : j = e
      · rw [ej, ax_ws]
        try rw [hx]
        rw [show ((e : Int) - e).toNat = 0 by omega]
        exact d2.symm
      · rw [ax_wi ej, h j j0 j1]
        try rw [hx]
        have : ((e : Int) - j).toNat = ((e : Int) - 1 - j).toNat + 1 := by omega
        rw [this]
        show dgt c _ (q / c) = dgt c _ ((q + 1) / c)
        rw [d1]
    · obtain ⟨d1, d2⟩ := dv_hi c0 c9 hl
      rw [if_neg hl, ax_let, ax_w32 (x := (e : Int) + -1) (by omega) (by omega), ax_let, show (e : Int) + -1 = (e : Int) - 1 by omega]
      obtain ⟨r, M2, e2, f1, f2, f3⟩ := ih (am_wr (am_wr M 440 e (q % c + 1)) 440 e 0) (q / c) (by omega) (ax_Kw K1 rfl) (fun j j0 j1 => by
        rw [ax_wi (by omega), ax_wi (by omega), h j j0 (by omega)]
        try rw [hx]
        have : ((e : Int) - j).toNat = ((e : Int) - 1 - j).toNat + 1 := by omega
        rw [this]
        rfl)
      refine ⟨r, M2, e2, fun j j0 j1 => ?_, fun j j0 => ?_, fun x i hx => ?_⟩
      · by_cases ej : j = e
        · rw [ej, f2 e (Int.le_refl _), ax_ws]
          try rw [hx]
          rw [show ((e : Int) - e).toNat = 0 by omega]
          exact d2.symm
        · rw [f1 j j0 (by omega)]
          try rw [hx]
          have : ((e : Int) - j).toNat = ((e : Int) - 1 - j).toNat + 1 := by omega
          rw [this]
          show dgt c _ (q / c + 1) = dgt c _ ((q + 1) / c)
          rw [d1]
      · rw [f2 j (by omega), ax_wi (by omega), ax_wi (by omega)]
      · rw [f3 x i hx, ax_wc hx, ax_wc hx]
theorem c_2 (hK : ax_K M) (c0 : 0 < c) (c9 : c ≤ 9) (n1 : 1 ≤ n) (n4 : n ≤ 4) (h : PLN M c n p) : ax_ok (am_Call d 2 [(2, 424), (0, n), (0, c)] M) (fun _ M' => PLN M' c n (p + 1) ∧ ∀ x i, x ≠ 440 → am_rd M' x i = am_rd M x i) := by
  obtain ⟨e, rfl⟩ : ∃ e : Nat, n = (e : Int) := ⟨n.toNat, by omega⟩
  rw [aq_2, show min (e : Int) 4 = e by omega, ax_w32 (by omega) (by omega), ax_let]
  exact ax_ok_mono (c_2l c0 c9 e M p (by omega) hK h) fun r M' ⟨q1, _, q3⟩ => ⟨q1, q3⟩
theorem c_3 (hK : ax_K M) (n1 : 1 ≤ n) (n4 : n ≤ 4) (h : PLN M c n p) : am_Call d 3 [(2, 424), (0, n)] M = some (clz c n.toNat p, M) := by
  rw [aq_3, ← clz_up]
  have key := ax_loop (X := fun k s => am_Ex d 3 5 [(2, 424), (0, n), (0, s), (0, k)] [] M) (f := czF c ((n.toNat : Nat) : Int) p) (E := fun s => some (s, M)) (n := n) (fun k s => 0 ≤ k ∧ 0 ≤ s ∧ s ≤ k) (fun k s ⟨k0, s0, s1⟩ k1 => by
    constructor
    · show am_Ex d 3 5 [(2, 424), (0, n), (0, s), (0, k)] [] M = am_Ex d 3 5 [(2, 424), (0, n), (0, czF c ((n.toNat : Nat) : Int) p k s), (0, k + 1)] [] M
      rw [aq_3_5, if_pos k1, if_pos (by omega), show am_ob 424 1 = true from rfl, ax_gt, kr_424_6 hK, ax_a_440, ax_gi (by omega) (by omega), h k k0 k1]
      unfold czF
      rw [show ((n.toNat : Nat) : Int) = n by omega]
      by_cases e : dgt c (n - 1 - k).toNat p = 0
      · rw [if_pos e, if_pos e, ax_w32 (x := s + 0) (by omega) (by omega), ax_let, ax_w32 (x := k + 1) (by omega) (by omega), ax_let]
      · rw [if_neg e, if_neg e, ax_w32 (x := s + 1) (by omega) (by omega), ax_let, ax_w32 (x := k + 1) (by omega) (by omega), ax_let]
    · unfold czF
      split <;> omega) (fun s _ => by
    show am_Ex d 3 5 [(2, 424), (0, n), (0, s), (0, n)] [] M = _
    rw [aq_3_5, if_neg (Int.lt_irrefl n)])
  exact key n.toNat 0 0 (by omega) (by omega)
/-- the model's digits -/
theorem m_93l {T : Int} (hT : T + 1 = c) (T0 : 0 ≤ T) (T8 : T ≤ 8) : ∀ (e : Nat) (M : am_M) (q s : Int), e ≤ 4 → ax_K M → am_rd M 448 0 = T → 0 ≤ q → q < 10000 → 0 ≤ s → s + (e : Int) ≤ 10 → ax_ok (am_Ex d 93 9 [(2, 447), am_N, am_N, (0, q), (0, s), (0, (e : Int) - 1)] [] M) (fun r M' => r = s + clz c e q ∧ (∀ j, 0 ≤ j → j < (e : Int) → am_rd M' 478 j = dgt c ((e : Int) - 1 - j).toNat q) ∧ (∀ j, (e : Int) ≤ j → am_rd M' 478 j = am_rd M 478 j) ∧ ∀ x i, x ≠ 478 → am_rd M' x i = am_rd M x i) := by
  intro e
  induction e with
  | zero =>
    intro M q s _ hK hM q0 q1 s0 s1
    rw [aq_93_9, if_pos (by omega)]
    exact ax_ok_some ⟨by show s = s + 0; omega, fun j h0 h1 => by omega, fun _ _ => rfl, fun _ _ _ => rfl⟩
  | succ e ih =>
    intro M q s he hK hM q0 q1 s0 s1
    have hx : ((e + 1 : Nat) : Int) - 1 = e := by omega
    have c0 : 0 < c := by omega
    have K1 : ax_K (am_wr M 478 e (q % c)) := ax_Kw hK rfl
    have dq0 : 0 ≤ q / c := Int.ediv_nonneg q0 (by omega)
    have dq1 : q / c ≤ q := Int.ediv_le_self c q0
    have e1 : am_rem q c = q % c := ax_rem q0 (by omega) c0 (by omega)
    have e2 : am_div q c = q / c := by
      rw [ax_div (by omega) (by omega) (by omega) (by omega), Int.tdiv_eq_ediv_of_nonneg q0]
    have r0 := Int.emod_nonneg q (show c ≠ 0 by omega)
    have g0 : am_rd (am_wr M 478 e (q % c)) 448 0 = T := (ax_wc (by omega)).trans hM
    rw [hx, aq_93_9, if_neg (by omega), show am_ob 447 11 = true from rfl, ax_gt, kr_447_0 hK, ax_a_448, ax_gi (by omega) (by omega), hM, hT, ax_w32 (x := c) (by omega) (by omega), if_neg (by omega), kr_447_48 hK, ax_a_478, ax_gi (by omega) (by omega), e1, ax_let, kr_447_0 K1, ax_a_448, ax_gi (by omega) (by omega), g0, hT, ax_w32 (x := c) (by omega) (by omega), if_neg (by omega), e2, ax_let, kr_447_48 K1, ax_a_478, ax_gi (by omega) (by omega), ax_ws]
    have fin : ∀ v, v = s + (if q % c = 0 then 0 else 1) → ax_ok (am_Ex d 93 9 [(2, 447), am_N, am_N, (0, q / c), (0, v), (0, (e : Int) + -1)] [] (am_wr M 478 e (q % c))) (fun r M' => r = s + clz c (e + 1) q ∧ (∀ j, 0 ≤ j → j < ((e + 1 : Nat) : Int) → am_rd M' 478 j = dgt c (((e + 1 : Nat) : Int) - 1 - j).toNat q) ∧ (∀ j, ((e + 1 : Nat) : Int) ≤ j → am_rd M' 478 j = am_rd M 478 j) ∧ ∀ x i, x ≠ 478 → am_rd M' x i = am_rd M x i) := fun v hv => by
      rw [show (e : Int) + -1 = (e : Int) - 1 by omega]
      obtain ⟨r, M2, e3, f0, f1, f2, f3⟩ := ih (am_wr M 478 e (q % c)) (q / c) v (by omega) K1 g0 dq0 (by omega) (by rw [hv]; split <;> omega) (by rw [hv]; split <;> omega)
      refine ⟨r, M2, e3, ?_, fun j j0 j1 => ?_, fun j j0 => ?_, fun x i hx => ?_⟩
      · rw [f0, hv]
        show _ = s + (clz c e (q / c) + (if q % c = 0 then 0 else 1))
        omega
      · by_cases ej : j = e
        · rw [ej, f2 e (Int.le_refl _), ax_ws]
          try rw [hx]
          rw [show ((e : Int) - e).toNat = 0 by omega]
          rfl
        · rw [f1 j j0 (by omega)]
          try rw [hx]
          have : ((e : Int) - j).toNat = ((e : Int) - 1 - j).toNat + 1 := by omega
          rw [this]
          rfl
      · rw [f2 j (by omega), ax_wi (by omega)]
      · rw [f3 x i hx, ax_wc hx]
    by_cases h : q % c = 0
    · rw [if_pos (by omega), ax_w32 (x := s + 0) (by omega) (by omega), ax_let, ax_w32 (x := (e : Int) + -1) (by omega) (by omega), ax_let]
      have g := fin (s + 0) (by rw [if_pos h])
      rw [hx] at g
      exact g
    · rw [if_neg (by omega), ax_w32 (x := s + 1) (by omega) (by omega), ax_let, ax_w32 (x := (e : Int) + -1) (by omega) (by omega), ax_let]
      have g := fin (s + 1) (by rw [if_neg h])
      rw [hx] at g
      exact g
end
