/-! text: the model's ends -/
theorem lg_get {M : am_M} {v : List cd} : ∀ (w : List cd), OST M (w ++ v) → ∀ (j : Nat) (y : cd), w.reverse[j]? = some y → am_rd M 468 ((v.length : Int) + j) = y.1 ∧ am_rd M 469 ((v.length : Int) + j) = y.2 := by
  intro w
  induction w with
  | nil => intro _ j y h; rw [List.reverse_nil, List.getElem?_nil] at h; cases h
  | cons z w ih =>
    intro h j y hy
    rw [List.reverse_cons, List.getElem?_append] at hy
    rw [List.length_reverse] at hy
    by_cases q : j < w.length
    · rw [if_pos q] at hy
      exact ih h.2.2 j y hy
    · rw [if_neg q] at hy
      have e : j = w.length := by
        rcases Nat.lt_or_ge (j - w.length) 1 with r | r
        · omega
        · rw [List.getElem?_eq_none (by rw [List.length_singleton]; exact r)] at hy; cases hy
      subst e
      rw [Nat.sub_self] at hy
      have hy : z = y := Option.some.inj hy
      have l : ((w ++ v).length : Int) = (v.length : Int) + w.length := by rw [List.length_append]; omega
      have h1 : am_rd M 468 ((w ++ v).length : Int) = z.1 := h.1
      have h2 : am_rd M 469 ((w ++ v).length : Int) = z.2 := h.2.1
      rw [l] at h1 h2
      rw [← hy]
      exact ⟨h1, h2⟩
theorem lg_suf {M : am_M} {l : List cd} : ∀ (u : List cd), OST M (u ++ l) → OST M l := by
  intro u
  induction u with
  | nil => intro h; exact h
  | cons z u ih => intro h; exact ih h.2.2
theorem lc_get {M : am_M} {c : Int} {v : List cd} : ∀ (w : List cd), CST M c (w ++ v) → ∀ (j : Nat) (y : cd), w.reverse[j]? = some y → am_rd M c ((v.length : Int) + j) = lx_enc y := by
  intro w
  induction w with
  | nil => intro _ j y h; rw [List.reverse_nil, List.getElem?_nil] at h; cases h
  | cons z w ih =>
    intro h j y hy
    rw [List.reverse_cons, List.getElem?_append] at hy
    rw [List.length_reverse] at hy
    by_cases q : j < w.length
    · rw [if_pos q] at hy
      exact ih h.2 j y hy
    · rw [if_neg q] at hy
      have e : j = w.length := by
        rcases Nat.lt_or_ge (j - w.length) 1 with r | r
        · omega
        · rw [List.getElem?_eq_none (by rw [List.length_singleton]; exact r)] at hy; cases hy
      subst e
      rw [Nat.sub_self] at hy
      have hy : z = y := Option.some.inj hy
      have l : ((w ++ v).length : Int) = (v.length : Int) + w.length := by rw [List.length_append]; omega
      have h1 : am_rd M c ((w ++ v).length : Int) = lx_enc z := h.1
      rw [l] at h1
      rw [← hy]
      exact h1
theorem lc_suf {M : am_M} {c : Int} {l : List cd} : ∀ (u : List cd), CST M c (u ++ l) → CST M c l := by
  intro u
  induction u with
  | nil => intro h; exact h
  | cons z u ih => intro h; exact ih h.2
section
variable {d : Nat} {M : am_M} {t n : Int}
theorem u_102 (t0 : 0 ≤ t) (t4 : t < 4) (n24 : n ≤ 24) : ∀ (m : Nat) (i : Int) (M : am_M), i + m = n → 0 ≤ i → ax_K M → am_rd M 447 29 = n → ∃ M', am_Ex d 295 102 [(2, 447), (0, t), (0, i)] [] M = am_Ex d 295 175 [(2, 447), (0, t), (0, 0)] [] M' ∧ ax_K M' ∧ (∀ x j, ¬ (452 ≤ x ∧ x ≤ 456 ∧ 24 * t + i ≤ j ∧ j < 24 * t + n) → am_rd M' x j = am_rd M x j) ∧ ∀ k, i ≤ k → k < n → am_rd M' 452 (24 * t + k) = am_rd M 463 k ∧ am_rd M' 453 (24 * t + k) = am_w32 (400 * t + am_rd M 464 k) ∧ am_rd M' 454 (24 * t + k) = am_rd M 465 k ∧ am_rd M' 455 (24 * t + k) = am_rd M 466 k ∧ am_rd M' 456 (24 * t + k) = am_rd M 467 k := by
  intro m
  induction m with
  | zero =>
    intro i M hi i0 hK h29
    rw [aq_295_102, ax_o_447, ax_gt, h29, if_neg (by omega)]
    exact ⟨M, rfl, hK, fun _ _ _ => rfl, fun k k0 k1 => by omega⟩
  | succ m ih =>
    intro i M hi i0 hK h29
    have w1 : am_w32 (am_w32 (24 * t) + i) = 24 * t + i := by rw [ax_w32 (x := 24 * t) (by omega) (by omega), ax_w32 (by omega) (by omega)]
    have K1 : ax_K (am_wr M 452 (24 * t + i) (am_rd M 463 i)) := ax_Kwa (k := 20) hK rfl fun _ => rfl
    have e1 : am_rd (am_wr M 452 (24 * t + i) (am_rd M 463 i)) 464 i = am_rd M 464 i := ax_wc (by decide)
    have w2 : am_w32 (am_w32 (400 * t) + am_rd M 464 i) = am_w32 (400 * t + am_rd M 464 i) := by rw [ax_w32 (x := 400 * t) (by omega) (by omega)]
    generalize hg : am_w32 (400 * t + am_rd M 464 i) = g at *
    rw [aq_295_102, ax_o_447, ax_gt, h29, if_pos (by omega), kr_447_31 hK, ax_a_463, ax_gi (by omega) (by omega), kr_447_7 hK, w1, ax_a_452, ax_gi (by omega) (by omega), ax_let, kr_447_32 K1, ax_a_464, ax_gi (by omega) (by omega), kr_447_8 K1, ax_a_453, ax_gi (by omega) (by omega), e1, w2, ax_let]
    have K2 := (ax_Kwa (k := 20) K1 rfl fun _ => rfl : ax_K (am_wr (am_wr M 452 (24 * t + i) (am_rd M 463 i)) 453 (24 * t + i) g))
    have e2 : am_rd (am_wr (am_wr M 452 (24 * t + i) (am_rd M 463 i)) 453 (24 * t + i) g) 465 i = am_rd M 465 i := (ax_wc (by decide)).trans (ax_wc (by decide))
    have e2b : am_rd (am_wr (am_wr M 452 (24 * t + i) (am_rd M 463 i)) 453 (24 * t + i) g) 466 i = am_rd M 466 i := (ax_wc (by decide)).trans (ax_wc (by decide))
    have e2c : am_rd (am_wr (am_wr M 452 (24 * t + i) (am_rd M 463 i)) 453 (24 * t + i) g) 467 i = am_rd M 467 i := (ax_wc (by decide)).trans (ax_wc (by decide))
    have f2 : ∀ x j, ¬ (452 ≤ x ∧ x ≤ 456 ∧ j = 24 * t + i) → am_rd (am_wr (am_wr M 452 (24 * t + i) (am_rd M 463 i)) 453 (24 * t + i) g) x j = am_rd M x j := fun x j h => by rw [ax_rw, if_neg (by omega), ax_rw, if_neg (by omega)]
    have g1 : am_rd (am_wr (am_wr M 452 (24 * t + i) (am_rd M 463 i)) 453 (24 * t + i) g) 452 (24 * t + i) = am_rd M 463 i := (ax_wc (by decide)).trans ax_ws
    have g2 : am_rd (am_wr (am_wr M 452 (24 * t + i) (am_rd M 463 i)) 453 (24 * t + i) g) 453 (24 * t + i) = g := ax_ws
    generalize am_wr (am_wr M 452 (24 * t + i) (am_rd M 463 i)) 453 (24 * t + i) g = M2 at *
    have K3 : ax_K (am_wr M2 454 (24 * t + i) (am_rd M 465 i)) := ax_Kwa (k := 20) K2 rfl fun _ => rfl
    have e3 : am_rd (am_wr M2 454 (24 * t + i) (am_rd M 465 i)) 466 i = am_rd M 466 i := (ax_wc (by decide)).trans e2b
    have K4 : ax_K (am_wr (am_wr M2 454 (24 * t + i) (am_rd M 465 i)) 455 (24 * t + i) (am_rd M 466 i)) := ax_Kwa (k := 20) K3 rfl fun _ => rfl
    have e4 : am_rd (am_wr (am_wr M2 454 (24 * t + i) (am_rd M 465 i)) 455 (24 * t + i) (am_rd M 466 i)) 467 i = am_rd M 467 i := (ax_wc (by decide)).trans ((ax_wc (by decide)).trans e2c)
    rw [kr_447_33 K2, ax_a_465, ax_gi (by omega) (by omega), kr_447_9 K2, ax_a_454, ax_gi (by omega) (by omega), e2, ax_let, kr_447_34 K3, ax_a_466, ax_gi (by omega) (by omega), kr_447_10 K3, ax_a_455, ax_gi (by omega) (by omega), e3, ax_let, kr_447_35 K4, ax_a_467, ax_gi (by omega) (by omega), kr_447_11 K4, ax_a_456, ax_gi (by omega) (by omega), e4, ax_let, ax_let, ax_w32 (x := i + 1) (by omega) (by omega)]
    have K5 : ax_K (am_wr (am_wr (am_wr M2 454 (24 * t + i) (am_rd M 465 i)) 455 (24 * t + i) (am_rd M 466 i)) 456 (24 * t + i) (am_rd M 467 i)) := ax_Kwa (k := 20) K4 rfl fun _ => rfl
    have f5 : ∀ x j, ¬ (452 ≤ x ∧ x ≤ 456 ∧ j = 24 * t + i) → am_rd (am_wr (am_wr (am_wr M2 454 (24 * t + i) (am_rd M 465 i)) 455 (24 * t + i) (am_rd M 466 i)) 456 (24 * t + i) (am_rd M 467 i)) x j = am_rd M x j := fun x j h => by rw [ax_rw, if_neg (by omega), ax_rw, if_neg (by omega), ax_rw, if_neg (by omega)]; exact f2 x j h
    have g3 : am_rd (am_wr (am_wr (am_wr M2 454 (24 * t + i) (am_rd M 465 i)) 455 (24 * t + i) (am_rd M 466 i)) 456 (24 * t + i) (am_rd M 467 i)) 452 (24 * t + i) = am_rd M 463 i := (ax_wc (by decide)).trans ((ax_wc (by decide)).trans ((ax_wc (by decide)).trans g1))
    have g4 : am_rd (am_wr (am_wr (am_wr M2 454 (24 * t + i) (am_rd M 465 i)) 455 (24 * t + i) (am_rd M 466 i)) 456 (24 * t + i) (am_rd M 467 i)) 453 (24 * t + i) = g := (ax_wc (by decide)).trans ((ax_wc (by decide)).trans ((ax_wc (by decide)).trans g2))
    have g5 : am_rd (am_wr (am_wr (am_wr M2 454 (24 * t + i) (am_rd M 465 i)) 455 (24 * t + i) (am_rd M 466 i)) 456 (24 * t + i) (am_rd M 467 i)) 454 (24 * t + i) = am_rd M 465 i := (ax_wc (by decide)).trans ((ax_wc (by decide)).trans ax_ws)
    have g6 : am_rd (am_wr (am_wr (am_wr M2 454 (24 * t + i) (am_rd M 465 i)) 455 (24 * t + i) (am_rd M 466 i)) 456 (24 * t + i) (am_rd M 467 i)) 455 (24 * t + i) = am_rd M 466 i := (ax_wc (by decide)).trans ax_ws
    have g7 : am_rd (am_wr (am_wr (am_wr M2 454 (24 * t + i) (am_rd M 465 i)) 455 (24 * t + i) (am_rd M 466 i)) 456 (24 * t + i) (am_rd M 467 i)) 456 (24 * t + i) = am_rd M 467 i := ax_ws
    generalize am_wr (am_wr (am_wr M2 454 (24 * t + i) (am_rd M 465 i)) 455 (24 * t + i) (am_rd M 466 i)) 456 (24 * t + i) (am_rd M 467 i) = M5 at *
    obtain ⟨M', a, b, c, f⟩ := ih (i + 1) M5 (by omega) (by omega) K5 ((f5 _ _ (by omega)).trans h29)
    refine ⟨M', a, b, fun x j h => (c x j (by omega)).trans (f5 x j (by omega)), fun k k0 k1 => ?_⟩
    by_cases z : k = i
    · subst z
      rw [c _ _ (by omega), c _ _ (by omega), c _ _ (by omega), c _ _ (by omega), c _ _ (by omega)]
      exact ⟨g3, g4.trans hg.symm, g5, g6, g7⟩
    · have := f k (by omega) k1
      rw [f5 463 k (by omega), f5 464 k (by omega), f5 465 k (by omega), f5 466 k (by omega), f5 467 k (by omega)] at this
      exact this
theorem u_175 (t0 : 0 ≤ t) (t4 : t < 4) (n4 : n ≤ 400) : ∀ (m : Nat) (i : Int) (M : am_M), i + m = n → 0 ≤ i → ax_K M → am_rd M 447 36 = n → am_rd M 448 3 = t → ∃ M', am_Ex d 295 175 [(2, 447), (0, t), (0, i)] [] M = some (t, am_wr M' 448 3 (t + 1)) ∧ ax_K M' ∧ (∀ x j, ¬ (457 ≤ x ∧ x ≤ 458 ∧ 400 * t + i ≤ j ∧ j < 400 * t + n) → am_rd M' x j = am_rd M x j) ∧ ∀ k, i ≤ k → k < n → am_rd M' 457 (400 * t + k) = am_rd M 468 k ∧ am_rd M' 458 (400 * t + k) = am_rd M 469 k := by
  intro m
  induction m with
  | zero =>
    intro i M hi i0 hK h36 h3
    rw [aq_295_175, ax_o_447, ax_gt, h36, if_neg (by omega), kr_447_0 hK, ax_a_448, ax_gi (by omega) (by omega), h3, ax_let, ax_w32 (by omega) (by omega)]
    exact ⟨M, rfl, hK, fun _ _ _ => rfl, fun k k0 k1 => by omega⟩
  | succ m ih =>
    intro i M hi i0 hK h36 h3
    have w1 : am_w32 (am_w32 (400 * t) + i) = 400 * t + i := by rw [ax_w32 (x := 400 * t) (by omega) (by omega), ax_w32 (by omega) (by omega)]
    have K1 : ax_K (am_wr M 457 (400 * t + i) (am_rd M 468 i)) := ax_Kwa (k := 20) hK rfl fun _ => rfl
    have e1 : am_rd (am_wr M 457 (400 * t + i) (am_rd M 468 i)) 469 i = am_rd M 469 i := ax_wc (by decide)
    have K2 : ax_K (am_wr (am_wr M 457 (400 * t + i) (am_rd M 468 i)) 458 (400 * t + i) (am_rd M 469 i)) := ax_Kwa (k := 20) K1 rfl fun _ => rfl
    rw [aq_295_175, ax_o_447, ax_gt, h36, if_pos (by omega), kr_447_37 hK, ax_a_468, ax_gi (by omega) (by omega), kr_447_12 hK, w1, ax_a_457, ax_gi (by omega) (by omega), ax_let, kr_447_38 K1, ax_a_469, ax_gi (by omega) (by omega), kr_447_13 K1, ax_a_458, ax_gi (by omega) (by omega), e1, ax_let, ax_let, ax_w32 (x := i + 1) (by omega) (by omega)]
    have f2 : ∀ x j, ¬ (457 ≤ x ∧ x ≤ 458 ∧ j = 400 * t + i) → am_rd (am_wr (am_wr M 457 (400 * t + i) (am_rd M 468 i)) 458 (400 * t + i) (am_rd M 469 i)) x j = am_rd M x j := fun x j h => by rw [ax_rw, if_neg (by omega), ax_rw, if_neg (by omega)]
    have g1 : am_rd (am_wr (am_wr M 457 (400 * t + i) (am_rd M 468 i)) 458 (400 * t + i) (am_rd M 469 i)) 457 (400 * t + i) = am_rd M 468 i := (ax_wc (by decide)).trans ax_ws
    have g2 : am_rd (am_wr (am_wr M 457 (400 * t + i) (am_rd M 468 i)) 458 (400 * t + i) (am_rd M 469 i)) 458 (400 * t + i) = am_rd M 469 i := ax_ws
    generalize am_wr (am_wr M 457 (400 * t + i) (am_rd M 468 i)) 458 (400 * t + i) (am_rd M 469 i) = M2 at *
    obtain ⟨M', a, b, c, f⟩ := ih (i + 1) M2 (by omega) (by omega) K2 ((f2 _ _ (by omega)).trans h36) ((f2 _ _ (by omega)).trans h3)
    refine ⟨M', a, b, fun x j h => (c x j (by omega)).trans (f2 x j (by omega)), fun k k0 k1 => ?_⟩
    by_cases z : k = i
    · subst z
      rw [c _ _ (by omega), c _ _ (by omega)]
      exact ⟨g1, g2⟩
    · have := f k (by omega) k1
      rw [f2 468 k (by omega), f2 469 k (by omega)] at this
      exact this
end
section
variable {N0 : am_M} {T : Nat} {S I P Q : Int → Int} {d : Nat} {M : am_M} {s : PS} {e : Int × Int × Nat} {c : CS} {cl : List xcl} {t : Int}
theorem u_75e (h : PN N0 e M) : Ex45 d M = some (-1, am_wr (am_wr M 447 4 e.1) 447 5 e.2.1) := by
  have h0 := h.w0
  have r1 : am_rd (am_wr M 447 4 e.1) 447 20 = e.2.1 := (ax_wi (by decide)).trans h.wa
  have r2 : am_rd (am_wr (am_wr M 447 4 e.1) 447 5 e.2.1) 447 19 = e.1 := (ax_wi (by decide)).trans ((ax_wi (by decide)).trans h.wr)
  unfold Ex45
  rw [aq_295_45, ax_o_447, ax_gt, h.wr, if_neg (by omega), aq_295_75, ax_o_447, ax_gt, h.wr, ax_let, ax_let, r1, r2, if_neg (by omega)]
/-- a text that is read -/
theorem u_75o (h : PM N0 T S I P Q s M) (hS : S s.j = 0) (x : XS T c s cl) (T2 : T ≤ 301) (t0 : 0 ≤ t) (t4 : t < 4) (h3 : am_rd N0 448 3 = t) : ∃ M', Ex45 d M = some (t, M') ∧ ax_K M' ∧ XM M' t cl ∧ am_rd M' 447 4 = 0 ∧ am_rd M' 447 5 = -1 ∧ am_rd M' 448 3 = t + 1 ∧ ∀ x i, ¬ (mcl x i ∨ (x = 447 ∧ (i = 4 ∨ i = 5)) ∨ (x = 448 ∧ i = 3) ∨ (x = 451 ∧ i = t) ∨ (452 ≤ x ∧ x ≤ 456 ∧ 24 * t ≤ i ∧ i < 24 * t + 24) ∨ (457 ≤ x ∧ x ≤ 458 ∧ 400 * t ≤ i ∧ i < 400 * t + 400)) → am_rd M' x i = am_rd N0 x i := by
  obtain ⟨⟨a1, a2, a3, a4⟩, ⟨a5, a6⟩, ⟨a7, a8⟩, ⟨b4, b5⟩, b6, b7, b8⟩ := x
  have hm3 : am_rd M 448 3 = t := (h.fr 448 3 (by unfold mcl; omega)).trans h3
  have n24 := b6.1
  have K1 : ax_K (am_wr M 447 4 0) := ax_Kw h.hK rfl
  have K2 : ax_K (am_wr (am_wr M 447 4 0) 447 5 (-1)) := ax_Kw K1 rfl
  have K3 : ax_K (am_wr (am_wr (am_wr M 447 4 0) 447 5 (-1)) 451 t (s.nc : Int)) := ax_Kwa (k := 20) K2 rfl fun _ => rfl
  have r1 : am_rd (am_wr M 447 4 0) 447 20 = -1 := (ax_wi (by decide)).trans h.wa
  have w2 : ∀ x i, ¬ (x = 447 ∧ (i = 4 ∨ i = 5)) → am_rd (am_wr (am_wr M 447 4 0) 447 5 (-1)) x i = am_rd M x i := fun x i q => by rw [ax_rw, if_neg (by omega), ax_rw, if_neg (by omega)]
  have w3 : ∀ x i, ¬ (x = 447 ∧ (i = 4 ∨ i = 5)) → ¬ (x = 451 ∧ i = t) → am_rd (am_wr (am_wr (am_wr M 447 4 0) 447 5 (-1)) 451 t (s.nc : Int)) x i = am_rd M x i := fun x i q r => by rw [ax_rw, if_neg r]; exact w2 x i q
  have v4 : am_rd (am_wr (am_wr (am_wr M 447 4 0) 447 5 (-1)) 451 t (s.nc : Int)) 447 4 = 0 := (ax_wc (by decide)).trans ((ax_wi (by decide)).trans ax_ws)
  have v5 : am_rd (am_wr (am_wr (am_wr M 447 4 0) 447 5 (-1)) 451 t (s.nc : Int)) 447 5 = -1 := (ax_wc (by decide)).trans ax_ws
  have v451 : am_rd (am_wr (am_wr (am_wr M 447 4 0) 447 5 (-1)) 451 t (s.nc : Int)) 451 t = (s.nc : Int) := ax_ws
  have e0 : Ex45 d M = am_Ex d 295 102 [(2, 447), (0, t), (0, 0)] [] (am_wr (am_wr (am_wr M 447 4 0) 447 5 (-1)) 451 t (s.nc : Int)) := by
    unfold Ex45
    rw [aq_295_45, ax_o_447, ax_gt, if_pos h.wr, h.st, if_pos a1, h.so, if_pos hS, aq_295_75, ax_o_447, ax_gt, h.wr, ax_let, ax_let, r1, w2 447 19 (by omega), h.wr, if_pos (by decide), kr_447_0 K2, ax_a_448, ax_gi (by decide) (by decide), w2 448 3 (by omega), hm3, ax_let, kr_447_6 K2, ax_a_451, ax_gi t0 t4, w2 447 29 (by omega), h.nc, ax_let]
  rw [e0]
  generalize am_wr (am_wr (am_wr M 447 4 0) 447 5 (-1)) 451 t (s.nc : Int) = M3 at *
  have x29 : am_rd M3 447 29 = (s.nc : Int) := (w3 _ _ (by omega) (by omega)).trans h.nc
  obtain ⟨M4, p1, p2, p3, p4⟩ := u_102 (d := d) t0 t4 (n := (s.nc : Int)) (by omega) s.nc 0 M3 (by omega) (by omega) K3 x29
  have x36 : am_rd M4 447 36 = (s.cs.length : Int) := (p3 _ _ (by omega)).trans ((w3 _ _ (by omega) (by omega)).trans h.on)
  have x3 : am_rd M4 448 3 = t := (p3 _ _ (by omega)).trans ((w3 _ _ (by omega) (by omega)).trans hm3)
  obtain ⟨M5, q1, q2, q3, q4⟩ := u_175 (d := d) t0 t4 (n := (s.cs.length : Int)) (by omega) s.cs.length 0 M4 (by omega) (by omega) p2 x36 x3
  have F : ∀ x i, x ≠ 448 → am_rd (am_wr M5 448 3 (t + 1)) x i = am_rd M5 x i := fun x i hx => ax_wc hx
  refine ⟨_, by rw [p1, q1], ax_Kwa (k := 20) q2 rfl fun _ => rfl, ⟨?_, fun j hj => ?_⟩, ?_, ?_, ax_ws, fun x i hx => ?_⟩
  · rw [F _ _ (by omega), q3 _ _ (by omega), p3 _ _ (by omega), v451, b5]
  · obtain ⟨c1, c2, c3, c4, c5⟩ := b8 j hj
    obtain ⟨d1, d2, d3, d4, d5⟩ := p4 (j : Int) (by omega) (by omega)
    rw [F _ _ (by omega), F _ _ (by omega), F _ _ (by omega), F _ _ (by omega), F _ _ (by omega), q3 _ _ (by omega), q3 _ _ (by omega), q3 _ _ (by omega), q3 _ _ (by omega), q3 _ _ (by omega), d1, d2, d3, d4, d5, w3 _ _ (by omega) (by omega), w3 _ _ (by omega) (by omega), w3 _ _ (by omega) (by omega), w3 _ _ (by omega) (by omega), w3 _ _ (by omega) (by omega), h.kd j (by omega) (by omega), h.po j (by omega) (by omega), h.na j (by omega) (by omega), h.nb j (by omega) (by omega), h.nd j (by omega) (by omega)]
    refine ⟨c1.2, fun z => (c2 z).2, fun z => (c3 z).2, fun z => (c4 z).2, fun z => ?_⟩
    obtain ⟨u, v, y1, y2⟩ := c5 z
    have len := congrArg List.length y1
    simp only [List.length_append, List.length_cons, List.length_reverse] at len
    have o1 := lg_suf u (y1 ▸ h.cs : OST M (u ++ ((408, 0) :: (cl[j].2.2.2.2.reverse ++ v))))
    have read : ∀ k : Int, 0 ≤ k → k < (s.cs.length : Int) → am_rd (am_wr M5 448 3 (t + 1)) 457 (400 * t + k) = am_rd M 468 k ∧ am_rd (am_wr M5 448 3 (t + 1)) 458 (400 * t + k) = am_rd M 469 k := fun k k0 k1 => by
      obtain ⟨r1, r2⟩ := q4 k k0 k1
      rw [F _ _ (by omega), F _ _ (by omega), r1, r2, p3 _ _ (by omega), p3 _ _ (by omega), w3 _ _ (by omega) (by omega), w3 _ _ (by omega) (by omega)]
      exact ⟨rfl, rfl⟩
    rw [ax_w32 (by omega) (by omega), y2]
    refine ⟨⟨by omega, by omega, fun i hi => ?_, ?_⟩, by omega, by omega⟩
    · have g := lg_get cl[j].2.2.2.2.reverse o1.2.2 i cl[j].2.2.2.2[i] (by rw [List.reverse_reverse, List.getElem?_eq_getElem hi])
      obtain ⟨r1, r2⟩ := read ((v.length : Int) + i) (by omega) (by omega)
      rw [show 400 * t + (v.length : Int) + (i : Int) = 400 * t + ((v.length : Int) + i) by omega, r1, r2]
      exact ⟨g.1, fun _ => g.2⟩
    · have g : am_rd M 468 (((cl[j].2.2.2.2.reverse ++ v).length : Nat) : Int) = 408 := o1.1
      rw [List.length_append, List.length_reverse] at g
      obtain ⟨r1, _⟩ := read ((v.length : Int) + (cl[j].2.2.2.2.length : Int)) (by omega) (by omega)
      rw [show 400 * t + (v.length : Int) + (cl[j].2.2.2.2.length : Int) = 400 * t + ((v.length : Int) + (cl[j].2.2.2.2.length : Int)) by omega, r1, ← g]
      congr 1
      omega
  · rw [F _ _ (by omega), q3 _ _ (by omega), p3 _ _ (by omega), v4]
  · rw [F _ _ (by omega), q3 _ _ (by omega), p3 _ _ (by omega), v5]
  · rw [ax_rw, if_neg (by omega), q3 _ _ (by omega), p3 _ _ (by omega), w3 _ _ (by omega) (by omega)]
    exact h.fr x i (fun q => hx (Or.inl q))
end
