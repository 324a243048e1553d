/-! the developers' tokens -/
def q_c (L : Nat) (B : Int → Int) (M : am_M) : Prop := L ≤ 300 ∧ ∀ j : Nat, j < L → am_rd M 419 j = B j ∧ 0 ≤ B j ∧ B j < 256
section
variable {d L : Nat} {B : Int → Int} {M : am_M} {q e : Nat}
theorem k_238 (hm : q_c L B M) (he : e ≤ L) {s : Nat} (hs : s + (e - q) ≤ 143) : ∀ (m c : Nat), q + c + m = e → ∃ r, am_Ex d 238 3 [(0, (s : Int)), (2, 419), (0, (q : Int)), (0, (e : Int)), (0, ((q + c : Nat) : Int)), am_N] [] M = some (r, M) ∧ (r = 0 ∨ r = 1) ∧ (r = 1 ↔ ∀ i, c ≤ i → i < e - q → B ((q + i : Nat) : Int) = q_W ((s + i : Nat) : Int)) := by
  have L3 := hm.1
  intro m
  induction m with
  | zero =>
    intro c hc
    rw [aq_238_3, if_neg (by omega)]
    exact ⟨1, rfl, Or.inr rfl, ⟨fun _ i h1 h2 => by omega, fun _ => rfl⟩⟩
  | succ m ih =>
    intro c hc
    have hb := hm.2 (q + c) (by omega)
    have w1 : am_w32 (am_w32 ((s : Int) + ((q + c : Nat) : Int)) - (q : Int)) = ((s + c : Nat) : Int) := by
      rw [ax_w32 (x := (s : Int) + ((q + c : Nat) : Int)) (by omega) (by omega), ax_w32 (by omega) (by omega)]; omega
    have w2 : am_w32 (((q + c : Nat) : Int) + 1) = ((q + (c + 1) : Nat) : Int) := by rw [ax_w32 (by omega) (by omega)]; omega
    rw [aq_238_3, if_pos (by omega), ax_let, w1, if_neg (by omega), show am_ia 419 = true from rfl, ax_gt, show am_ln 419 = 300 from rfl, if_pos (by omega), if_neg (by omega), k_169, Option.bind_some]
    dsimp only
    rw [if_pos (by omega), ax_a_419, ax_gi (by omega) (by omega), k_233 (by omega) (by omega), Option.bind_some]
    dsimp only
    rw [hb.1]
    by_cases z : B ((q + c : Nat) : Int) = q_W ((s + c : Nat) : Int)
    · rw [if_pos z, ax_let, w2]
      obtain ⟨r, a, b, f⟩ := ih (c + 1) (by omega)
      refine ⟨r, a, b, f.trans ⟨fun h i h1 h2 => ?_, fun h i h1 h2 => h i (by omega) h2⟩⟩
      by_cases y : i = c
      · rw [y]; exact z
      · exact h i (by omega) h2
    · rw [if_neg z]
      exact ⟨0, rfl, Or.inl rfl, ⟨fun h => absurd h (by decide), fun h => absurd (h c (Nat.le_refl _) (by omega)) z⟩⟩
theorem k_257w (hm : q_c L B M) (hq : q ≤ e) (he : e ≤ L) {k : Nat} (hk : k < 29) : ∀ (m i : Nat), i + m = q_st k + q_ln k → q_st k ≤ i → am_Ex d 257 7 [(2, 419), (0, (q : Int)), (0, (e : Int)), (0, (k : Int)), (0, (q_st k : Int)), (0, (i : Int))] [] M = if q_rl B q (e - q) = q_wr k then some ((k : Int), M) else am_Ex d 257 7 [(2, 419), (0, (q : Int)), (0, (e : Int)), (0, ((k + 1 : Nat) : Int)), (0, (q_st (k + 1) : Int)), (0, (q_st (k + 1) : Int))] [] M := by
  have L3 := hm.1
  have f1 := q_f1 ⟨k, hk⟩
  have f1 : q_st (k + 1) = q_st k + q_ln k + 1 ∧ q_st k + q_ln k ≤ 143 ∧ (q_st k + q_ln k = 143 ∨ q_W ((q_st k + q_ln k : Nat) : Int) = 32) ∧ q_ln k ≤ 7 := f1
  obtain ⟨f1, f2, f3, f4⟩ := f1
  intro m
  induction m with
  | zero =>
    intro i hi hs
    have ei : i = q_st k + q_ln k := by omega
    have e37 : am_Ex d 257 37 [(2, 419), (0, (q : Int)), (0, (e : Int)), (0, (k : Int)), am_N, (0, (i : Int))] [] M = am_Ex d 257 7 [(2, 419), (0, (q : Int)), (0, (e : Int)), (0, ((k + 1 : Nat) : Int)), (0, (q_st (k + 1) : Int)), (0, (q_st (k + 1) : Int))] [] M := by
      have w1 : am_w32 ((k : Int) + 1) = ((k + 1 : Nat) : Int) := by rw [ax_w32 (by omega) (by omega)]; omega
      have w2 : am_w32 ((i : Int) + 1) = (q_st (k + 1) : Int) := by rw [ax_w32 (by omega) (by omega)]; omega
      rw [aq_257_37, ax_let, ax_let, aq_257_43, ax_let, w1, w2]
    have e21 : am_Ex d 257 21 [(2, 419), (0, (q : Int)), (0, (e : Int)), (0, (k : Int)), (0, (q_st k : Int)), (0, (i : Int))] [] M = if q_rl B q (e - q) = q_wr k then some ((k : Int), M) else am_Ex d 257 7 [(2, 419), (0, (q : Int)), (0, (e : Int)), (0, ((k + 1 : Nat) : Int)), (0, (q_st (k + 1) : Int)), (0, (q_st (k + 1) : Int))] [] M := by
      rw [aq_257_21, e37, ax_w32 (x := (i : Int) - (q_st k : Int)) (by omega) (by omega), ax_w32 (x := (e : Int) - (q : Int)) (by omega) (by omega)]
      by_cases z : (i : Int) - (q_st k : Int) = (e : Int) - (q : Int)
      · have len : e - q = q_ln k := by omega
        obtain ⟨r, a, b, c⟩ := k_238 (d := d) (q := q) (s := q_st k) hm he (by omega) (e - q) 0 (by omega)
        have a : am_Call d 238 [(0, (q_st k : Int)), (2, 419), (0, (q : Int)), (0, (e : Int))] M = some (r, M) := by rw [aq_238]; exact a
        rw [if_pos z, a, Option.bind_some]
        dsimp only
        have c2 : r = 1 ↔ q_rl B q (e - q) = q_wr k := by
          unfold q_wr
          rw [len, q_rl_eq, c, len]
          exact ⟨fun h i hi => h i (by omega) hi, fun h i _ hi => h i hi⟩
        by_cases y : q_rl B q (e - q) = q_wr k
        · rw [if_pos y, if_neg (by rw [c2.mpr y]; decide)]
        · rw [if_neg y, if_pos (by rcases b with b | b; exact b; exact absurd (c2.mp b) y)]
          exact e37
      · rw [if_neg z, if_neg]
        intro y
        have := congrArg List.length y
        unfold q_wr at this
        rw [q_rl_len, q_rl_len] at this
        omega
    rw [aq_257_7, k_169, Option.bind_some]
    dsimp only
    rw [if_pos (by omega), k_169, Option.bind_some]
    dsimp only
    by_cases z : (i : Int) = 143
    · rw [if_pos z]; exact e21
    · rw [if_neg z, k_233 (by omega) (by omega), Option.bind_some]
      dsimp only
      rw [if_pos (by rw [ei]; rcases f3 with f3 | f3; exact absurd f3 (by omega); exact f3)]
      exact e21
  | succ m ih =>
    intro i hi hs
    have ns := q_f2 ⟨k, hk⟩ ⟨i - q_st k, by omega⟩
    have ns : i - q_st k < q_ln k → q_W ((q_st k + (i - q_st k) : Nat) : Int) ≠ 32 := ns
    have ns := ns (by omega)
    rw [show q_st k + (i - q_st k) = i by omega] at ns
    rw [aq_257_7, k_169, Option.bind_some]
    dsimp only
    rw [if_pos (by omega), k_169, Option.bind_some]
    dsimp only
    rw [if_neg (by omega), k_233 (by omega) (by omega), Option.bind_some]
    dsimp only
    rw [if_neg ns, aq_257_43, ax_let, show am_w32 ((i : Int) + 1) = ((i + 1 : Nat) : Int) by rw [ax_w32 (by omega) (by omega)]; omega]
    exact ih (i + 1) (by omega) (by omega)
theorem k_257l (hm : q_c L B M) (hq : q ≤ e) (he : e ≤ L) : ∀ (m k : Nat), k + m = 29 → am_Ex d 257 7 [(2, 419), (0, (q : Int)), (0, (e : Int)), (0, (k : Int)), (0, (q_st k : Int)), (0, (q_st k : Int))] [] M = some (q_fw (q_rl B q (e - q)) m k, M) := by
  intro m
  induction m with
  | zero =>
    intro k hk
    have : k = 29 := by omega
    subst this
    rw [aq_257_7, k_169, Option.bind_some]
    dsimp only
    rw [if_neg (by decide)]
    rfl
  | succ m ih =>
    intro k hk
    rw [k_257w hm hq he (by omega) (q_ln k) (q_st k) rfl (Nat.le_refl _), ih (k + 1) (by omega)]
    show _ = some (if q_rl B q (e - q) = q_wr k then (k : Int) else q_fw (q_rl B q (e - q)) m (k + 1), M)
    split <;> rfl
theorem k_257 (hm : q_c L B M) (hq : q ≤ e) (he : e ≤ L) : am_Call d 257 [(2, 419), (0, (q : Int)), (0, (e : Int))] M = some (q_fw (q_rl B q (e - q)) 29 0, M) := by
  rw [aq_257]
  exact k_257l hm hq he 29 0 rfl
theorem k_40 {x : Int} : am_Call d 40 [(0, x)] M = some (ax_b (q_L x), M) := by
  have e7 : am_Ex d 40 7 [(0, x)] [] M = some (ax_b (65 ≤ x ∧ x ≤ 90), M) := by
    rw [aq_40_7, aq_40_14]
    by_cases a : x < 65
    · rw [if_pos a, ax_bf (by omega)]
    · rw [if_neg a]
      by_cases b : x ≤ 90
      · rw [if_pos b, ax_bt (by omega)]
      · rw [if_neg b, ax_bf (by omega)]
  rw [aq_40, e7, aq_40_14]
  by_cases a : x < 97
  · rw [if_pos a, ax_bc (by omega : (65 ≤ x ∧ x ≤ 90) ↔ q_L x)]
  · rw [if_neg a]
    by_cases b : x ≤ 122
    · rw [if_pos b, ax_bt (Or.inl ⟨by omega, b⟩)]
    · rw [if_neg b, ax_bc (by omega : (65 ≤ x ∧ x ≤ 90) ↔ q_L x)]
theorem k_41 {x : Int} : am_Call d 41 [(0, x)] M = some (ax_b (q_D x), M) := by
  rw [aq_41]
  by_cases a : x < 48
  · rw [if_pos a, ax_bf (by omega)]
  · rw [if_neg a]
    by_cases b : x ≤ 57
    · rw [if_pos b, ax_bt (by omega)]
    · rw [if_neg b, ax_bf (by omega)]
theorem k_42 (hm : q_c L B M) (hd : ∀ j : Nat, q ≤ j → j < e → q_D (B j)) (he : e ≤ L) : ∀ (m c : Nat), q + c + m = e → am_Ex d 42 5 [(2, 419), am_N, (0, (e : Int)), (0, q_cn B q c), (0, ((q + c : Nat) : Int))] [] M = some (q_cn B q (e - q), M) := by
  have L3 := hm.1
  intro m
  induction m with
  | zero =>
    intro c hc
    rw [aq_42_5, if_neg (by omega), show c = e - q by omega]
  | succ m ih =>
    intro c hc
    have hb := hm.2 (q + c) (by omega)
    have r := (q_n_rel (B := B) (q := q) c fun i hi => hd (q + i) (by omega) (by omega)).1
    have l := hd (q + c) (by omega) (by omega)
    have w2 : am_w32 (((q + c : Nat) : Int) + 1) = ((q + (c + 1) : Nat) : Int) := by rw [ax_w32 (by omega) (by omega)]; omega
    rw [aq_42_5, if_pos (by omega), if_neg (by omega), show am_ia 419 = true from rfl, ax_gt, show am_ln 419 = 300 from rfl, if_pos (by omega), ax_a_419, ax_gi (by omega) (by omega), hb.1, ax_let, ax_let, w2, ax_w32 (x := q_cn B q c * 10) (by omega) (by omega), ax_w32 (x := B ((q + c : Nat) : Int) - 48) (by omega) (by omega), ax_w32 (x := q_cn B q c * 10 + (B ((q + c : Nat) : Int) - 48)) (by omega) (by omega)]
    exact ih (c + 1) (by omega)
theorem k_25 (hm : q_c L B M) (hl : ∀ j : Nat, q ≤ j → j < e → q_L (B j)) (he : e ≤ L) (ne : e < L → ¬ q_L (B e)) : ∀ (m p : Nat), p + m = e → q ≤ p → am_Ex d 276 25 [(2, 420), (2, 419), (0, (L : Int)), (0, (p : Int)), (0, (q : Int)), am_N, am_N] [] M = am_Ex d 276 40 [(2, 420), (2, 419), (0, (L : Int)), (0, (e : Int)), (0, (q : Int)), am_N, am_N] [] M := by
  have L3 := hm.1
  intro m
  induction m with
  | zero =>
    intro p hp hq
    have : p = e := by omega
    subst this
    rw [aq_276_25]
    by_cases z : p < L
    · have hb := hm.2 p z
      rw [if_pos (by omega), show am_ia 419 = true from rfl, ax_gt, show am_ln 419 = 300 from rfl, if_pos (by omega), ax_a_419, ax_gi (by omega) (by omega), hb.1, k_40, Option.bind_some]
      dsimp only
      rw [ax_bf (ne z), if_pos rfl]
    · rw [if_neg (by omega)]
  | succ m ih =>
    intro p hp hq
    have hb := hm.2 p (by omega)
    rw [aq_276_25, if_pos (by omega), show am_ia 419 = true from rfl, ax_gt, show am_ln 419 = 300 from rfl, if_pos (by omega), ax_a_419, ax_gi (by omega) (by omega), hb.1, k_40, Option.bind_some]
    dsimp only
    rw [ax_bt (hl p hq (by omega)), if_neg (by decide), ax_let, show am_w32 ((p : Int) + 1) = ((p + 1 : Nat) : Int) by rw [ax_w32 (by omega) (by omega)]; omega]
    exact ih (p + 1) (by omega) (by omega)
theorem k_53 (hm : q_c L B M) (hl : ∀ j : Nat, q ≤ j → j < e → q_D (B j)) (he : e ≤ L) (ne : e < L → ¬ q_D (B e)) : ∀ (m p : Nat), p + m = e → q ≤ p → am_Ex d 276 53 [(2, 420), (2, 419), (0, (L : Int)), (0, (p : Int)), (0, (q : Int)), am_N, am_N] [] M = am_Ex d 276 68 [(2, 420), (2, 419), (0, (L : Int)), (0, (e : Int)), (0, (q : Int)), am_N, am_N] [] M := by
  have L3 := hm.1
  intro m
  induction m with
  | zero =>
    intro p hp hq
    have : p = e := by omega
    subst this
    rw [aq_276_53]
    by_cases z : p < L
    · have hb := hm.2 p z
      rw [if_pos (by omega), show am_ia 419 = true from rfl, ax_gt, show am_ln 419 = 300 from rfl, if_pos (by omega), ax_a_419, ax_gi (by omega) (by omega), hb.1, k_41, Option.bind_some]
      dsimp only
      rw [ax_bf (ne z), if_pos rfl]
    · rw [if_neg (by omega)]
  | succ m ih =>
    intro p hp hq
    have hb := hm.2 p (by omega)
    rw [aq_276_53, if_pos (by omega), show am_ia 419 = true from rfl, ax_gt, show am_ln 419 = 300 from rfl, if_pos (by omega), ax_a_419, ax_gi (by omega) (by omega), hb.1, k_41, Option.bind_some]
    dsimp only
    rw [ax_bt (hl p hq (by omega)), if_neg (by decide), ax_let, show am_w32 ((p : Int) + 1) = ((p + 1 : Nat) : Int) by rw [ax_w32 (by omega) (by omega)]; omega]
    exact ih (p + 1) (by omega) (by omega)
end
/-- k tokens have been found -/
def q_t (Ms : am_M) (L : Nat) (B : Int → Int) (K N P : Int → Int) (k : Nat) (M : am_M) : Prop := ax_K M ∧ q_c L B M ∧ (∀ x i, ¬ ((x = 420 ∧ i = 3) ∨ (421 ≤ x ∧ x ≤ 423)) → am_rd M x i = am_rd Ms x i) ∧ am_rd M 420 3 = (k : Int) ∧ ∀ j, 0 ≤ j → j < (k : Int) → am_rd M 421 j = K j ∧ am_rd M 422 j = N j ∧ am_rd M 423 j = P j
section
variable {d L : Nat} {B : Int → Int} {K N P : Int → Int} {Ms M : am_M} {q e k : Nat}
theorem k_39 (h : q_t Ms L B K N P k M) (k3 : k ≤ 300) {a b c : Int} (ha : a = K k) (hb : b = N k) (hc : c = P k) : ∃ M', am_Call d 39 [(2, 420), (0, a), (0, b), (0, c)] M = some (0, M') ∧ q_t Ms L B K N P (k + 1) M' := by
  obtain ⟨hK, hm, fr, h3, hj⟩ := h
  have K1 : ax_K (am_wr M 421 (k : Int) a) := ax_Kwa (k := 20) hK rfl fun _ => rfl
  have K2 : ax_K (am_wr (am_wr M 421 (k : Int) a) 422 (k : Int) b) := ax_Kwa (k := 20) K1 rfl fun _ => rfl
  have K3 : ax_K (am_wr (am_wr (am_wr M 421 (k : Int) a) 422 (k : Int) b) 423 (k : Int) c) := ax_Kwa (k := 20) K2 rfl fun _ => rfl
  have r1 : am_rd (am_wr M 421 (k : Int) a) 420 3 = (k : Int) := (ax_wc (by decide)).trans h3
  have r2 : am_rd (am_wr (am_wr M 421 (k : Int) a) 422 (k : Int) b) 420 3 = (k : Int) := (ax_wc (by decide)).trans r1
  have r3 : am_rd (am_wr (am_wr (am_wr M 421 (k : Int) a) 422 (k : Int) b) 423 (k : Int) c) 420 3 = (k : Int) := (ax_wc (by decide)).trans r2
  rw [aq_39, ax_o_420, ax_gt, h3, if_neg (by omega), kr_420_0 hK, show am_ia 421 = true from rfl, ax_gt, show am_ln 421 = 301 from rfl, if_pos (by omega), ax_a_421, ax_gi (by omega) (by omega), ax_let, kr_420_1 K1, r1, ax_a_422, ax_gi (by omega) (by omega), ax_let, kr_420_2 K2, r2, ax_a_423, ax_gi (by omega) (by omega), ax_let, r3, ax_let, ax_w32 (by omega) (by omega)]
  refine ⟨_, rfl, ax_Kw K3 rfl, ⟨hm.1, fun j hj => ⟨?_, (hm.2 j hj).2⟩⟩, fun x i hx => ?_, ?_, fun j j0 j1 => ?_⟩
  · rw [ax_rw, if_neg (by omega), ax_rw, if_neg (by omega), ax_rw, if_neg (by omega), ax_rw, if_neg (by omega)]
    exact (hm.2 j hj).1
  · rw [ax_rw, if_neg (by omega), ax_rw, if_neg (by omega), ax_rw, if_neg (by omega), ax_rw, if_neg (by omega)]
    exact fr x i hx
  · rw [ax_ws]; omega
  · by_cases z : j = (k : Int)
    · subst z
      refine ⟨?_, ?_, ?_⟩
      · rw [ax_rw, if_neg (by omega), ax_rw, if_neg (by omega), ax_rw, if_neg (by omega), ax_ws]; exact ha
      · rw [ax_rw, if_neg (by omega), ax_rw, if_neg (by omega), ax_ws]; exact hb
      · rw [ax_rw, if_neg (by omega), ax_ws]; exact hc
    · have := hj j j0 (by omega)
      refine ⟨?_, ?_, ?_⟩
      · rw [ax_rw, if_neg (by omega), ax_rw, if_neg (by omega), ax_rw, if_neg (by omega), ax_rw, if_neg (by omega)]; exact this.1
      · rw [ax_rw, if_neg (by omega), ax_rw, if_neg (by omega), ax_rw, if_neg (by omega), ax_rw, if_neg (by omega)]; exact this.2.1
      · rw [ax_rw, if_neg (by omega), ax_rw, if_neg (by omega), ax_rw, if_neg (by omega), ax_rw, if_neg (by omega)]; exact this.2.2
theorem k_sp (h : q_t Ms L B K N P k M) (hq : q ≤ L) : ∀ (m p : Nat), p + m = q → (∀ j : Nat, p ≤ j → j < q → q_S (B j)) → am_Ex d 276 6 [(2, 420), (2, 419), (0, (L : Int)), am_N, (0, (p : Int)), am_N, am_N] [] M = am_Ex d 276 6 [(2, 420), (2, 419), (0, (L : Int)), am_N, (0, (q : Int)), am_N, am_N] [] M := by
  have hm := h.2.1
  have L3 := hm.1
  intro m
  induction m with
  | zero => intro p hp hs; rw [show p = q by omega]
  | succ m ih =>
    intro p hp hs
    have hb := hm.2 p (by omega)
    have s := hs p (Nat.le_refl _) (by omega)
    have e1 : am_Ex d 276 6 [(2, 420), (2, 419), (0, (L : Int)), am_N, (0, (p : Int)), am_N, am_N] [] M = am_Ex d 276 116 [(2, 420), (2, 419), (0, (L : Int)), (0, ((p + 1 : Nat) : Int)), am_N, am_N, am_N] [] M := by
      rw [aq_276_6, if_pos (by omega), show am_ia 419 = true from rfl, ax_gt, show am_ln 419 = 300 from rfl, if_pos (by omega), ax_a_419, ax_gi (by omega) (by omega), hb.1, ax_let, ax_let, show am_w32 ((p : Int) + 1) = ((p + 1 : Nat) : Int) by rw [ax_w32 (by omega) (by omega)]; omega, k_40, Option.bind_some]
      dsimp only
      rw [ax_bf (by omega), if_pos rfl, k_41, Option.bind_some]
      dsimp only
      rw [ax_bf (by omega), if_pos rfl]
      rcases s with s | s
      · rw [if_pos s]
      · rw [if_neg (by omega), if_pos s]
    rw [e1, aq_276_116]
    exact ih (p + 1) (by omega) fun j h1 h2 => hs j (by omega) h2
theorem k_one (h : q_t Ms L B K N P k M) (k3 : k ≤ 300) (hq : q < L) (ns : ¬ q_S (B q)) (ht : q_te B L q e) (ha : q_K B L (q, e) = K k) (hb : q_N B (q, e) = N k) (hc : (q : Int) = P k) : ∃ M', am_Ex d 276 6 [(2, 420), (2, 419), (0, (L : Int)), am_N, (0, (q : Int)), am_N, am_N] [] M = am_Ex d 276 6 [(2, 420), (2, 419), (0, (L : Int)), am_N, (0, (e : Int)), am_N, am_N] [] M' ∧ q_t Ms L B K N P (k + 1) M' := by
  have hm := h.2.1
  have L3 := hm.1
  have hbq := hm.2 q hq
  obtain ⟨t1, t2, t3, t4, t5⟩ := ht
  rw [aq_276_6, if_pos (by omega), show am_ia 419 = true from rfl, ax_gt, show am_ln 419 = 300 from rfl, if_pos (by omega), ax_a_419, ax_gi (by omega) (by omega), hbq.1, ax_let, ax_let, show am_w32 ((q : Int) + 1) = ((q + 1 : Nat) : Int) by rw [ax_w32 (by omega) (by omega)]; omega, k_40, Option.bind_some]
  dsimp only
  by_cases a : q_L (B q)
  · rw [ax_bt a, if_neg (by decide)]
    obtain ⟨e1, e2, e3, e4⟩ := t3 a
    rw [k_25 hm e3 t2 e4 (e - (q + 1)) (q + 1) (by omega) (by omega), aq_276_40, k_257 hm e1 t2, Option.bind_some]
    dsimp only
    obtain ⟨M1, f1, f2⟩ := k_39 (d := d) h k3 (a := q_fw (q_rl B q (e - q)) 29 0) (b := 0) (c := (q : Int)) (by rw [← ha]; unfold q_K; rw [if_pos a]) (by rw [← hb]; unfold q_N; rw [if_pos a]) hc
    rw [ax_o_420, ax_gt, f1, Option.bind_some, aq_276_116]
    exact ⟨M1, rfl, f2⟩
  · rw [ax_bf a, if_pos rfl, k_41, Option.bind_some]
    dsimp only
    by_cases b : q_D (B q)
    · rw [ax_bt b, if_neg (by decide)]
      obtain ⟨e1, e2, e3, e4⟩ := t4 a b
      have e42 : am_Call d 42 [(2, 419), (0, (q : Int)), (0, (e : Int))] M = some (q_cn B q (e - q), M) := by
        rw [aq_42]
        exact k_42 hm e3 t2 (e - q) 0 (by omega)
      rw [k_53 hm e3 t2 e4 (e - (q + 1)) (q + 1) (by omega) (by omega), aq_276_68, e42, Option.bind_some]
      dsimp only
      obtain ⟨M1, f1, f2⟩ := k_39 (d := d) h k3 (a := 42) (b := q_cn B q (e - q)) (c := (q : Int)) (by rw [← ha]; unfold q_K; rw [if_neg a, if_pos b]) (by rw [← hb]; unfold q_N; rw [if_neg a, if_pos b]) hc
      rw [ax_o_420, ax_gt, f1, Option.bind_some, aq_276_116]
      exact ⟨M1, rfl, f2⟩
    · rw [ax_bf b, if_pos rfl, if_neg fun z => ns (Or.inl z), if_neg fun z => ns (Or.inr z)]
      obtain ⟨t6, t7⟩ := t5 a b
      have tail : ∀ y : Int, (y = 61 ∧ (B q = 60 ∨ B q = 62) ↔ q_two B L q) → ∃ M', ((am_Call d 237 [(0, B q), (0, y)] M).bind fun r116 => am_g (am_ob 420 6) <| (am_Call d 39 [(2, 420), (0, r116.1), (0, 0), (0, (q : Int))] r116.2).bind fun r118 => if r116.1 = 40 then (am_let (am_w32 (((q + 1 : Nat) : Int) + 1)) fun v120 => am_Ex d 276 116 [(2, 420), (2, 419), (0, (L : Int)), (0, v120), am_N, am_N, am_N] [] r118.2) else (if r116.1 = 41 then (am_let (am_w32 (((q + 1 : Nat) : Int) + 1)) fun v122 => am_Ex d 276 116 [(2, 420), (2, 419), (0, (L : Int)), (0, v122), am_N, am_N, am_N] [] r118.2) else (am_let (am_w32 (((q + 1 : Nat) : Int) + 0)) fun v123 => am_Ex d 276 116 [(2, 420), (2, 419), (0, (L : Int)), (0, v123), am_N, am_N, am_N] [] r118.2))) = am_Ex d 276 6 [(2, 420), (2, 419), (0, (L : Int)), am_N, (0, (e : Int)), am_N, am_N] [] M' ∧ q_t Ms L B K N P (k + 1) M' := fun y hy => by
        have hcs : (if y = 61 ∧ (B q = 60 ∨ B q = 62) then (if B q = 60 then (40 : Int) else 41) else if q_wi (am_str 0) 0 (B q) < 0 then 43 else 29 + q_wi (am_str 0) 0 (B q)) = q_cs B L q := by
          unfold q_cs
          by_cases z : q_two B L q
          · rw [if_pos z, if_pos (hy.mpr z)]
          · rw [if_neg z, if_neg fun w => z (hy.mp w)]
        rw [k_237 hbq.2.1 hbq.2.2, hcs, Option.bind_some]
        dsimp only
        obtain ⟨M1, f1, f2⟩ := k_39 (d := d) h k3 (a := q_cs B L q) (b := 0) (c := (q : Int)) (by rw [← ha]; unfold q_K; rw [if_neg a, if_neg b]) (by rw [← hb]; unfold q_N; rw [if_neg a, if_neg b]) hc
        rw [ax_o_420, ax_gt, f1, Option.bind_some]
        dsimp only
        refine ⟨M1, ?_, f2⟩
        by_cases z : q_two B L q
        · have w2 : am_w32 (((q + 1 : Nat) : Int) + 1) = (e : Int) := by rw [ax_w32 (by omega) (by omega), t6 z]; omega
          by_cases c6 : B q = 60
          · rw [if_pos (by unfold q_cs; rw [if_pos z, if_pos c6]), ax_let, w2, aq_276_116]
          · rw [if_neg (by unfold q_cs; rw [if_pos z, if_neg c6]; decide), if_pos (by unfold q_cs; rw [if_pos z, if_neg c6]), ax_let, w2, aq_276_116]
        · have w2 : am_w32 (((q + 1 : Nat) : Int) + 0) = (e : Int) := by rw [ax_w32 (by omega) (by omega), t7 z]; omega
          have n4 : q_cs B L q ≠ 40 ∧ q_cs B L q ≠ 41 := by
            unfold q_cs
            rw [if_neg z]
            have := q_wi_sg (x := B q)
            split <;> omega
          rw [if_neg n4.1, if_neg n4.2, ax_let, w2, aq_276_116]
      by_cases y1 : q + 1 < L
      · have hb1 := hm.2 (q + 1) y1
        rw [if_pos (by omega), if_pos (by omega), ax_a_419, ax_gi (by omega) (by omega), hb1.1]
        refine tail _ ⟨fun w => ⟨y1, by rw [← w.1]; congr 1, w.2⟩, fun w => ⟨by rw [← w.2.1]; congr 1, w.2.2⟩⟩
      · rw [if_neg (by omega)]
        exact tail 32 ⟨fun w => absurd w.1 (by decide), fun w => absurd w.1 y1⟩
theorem k_all {l : List (Nat × Nat)} (hl : q_tl B L 0 l) : ∀ (m k p : Nat) (M : am_M), k + m = l.length → q_tl B L p (l.drop k) → q_t Ms L B (q_fK B L l) (q_fN B L l) (q_fP L l) k M → ∃ M', am_Ex d 276 6 [(2, 420), (2, 419), (0, (L : Int)), am_N, (0, (p : Int)), am_N, am_N] [] M = some (0, M') ∧ q_t Ms L B (q_fK B L l) (q_fN B L l) (q_fP L l) (l.length + 1) M' := by
  have len := q_tl_len l 0 hl
  intro m
  induction m with
  | zero =>
    intro k p M hk tl h
    have L3 := h.2.1.1
    have e : l.drop k = [] := List.drop_eq_nil_of_le (by omega)
    rw [e] at tl
    obtain ⟨a1, a2⟩ := tl
    have kn : ((k : Int)).toNat = k := by omega
    have g : l.getD k (L, L) = (L, L) := by rw [List.getD_eq_getElem?_getD, List.getElem?_eq_none (by omega)]; rfl
    obtain ⟨M1, f1, f2⟩ := k_39 (d := d) h (by omega) (a := 44) (b := 0) (c := (L : Int)) (by unfold q_fK; rw [kn, if_neg (by omega)]) (by unfold q_fN; rw [kn, if_neg (by omega)]) (by unfold q_fP; rw [kn, g])
    rw [k_sp h (Nat.le_refl _) (L - p) p (by omega) a2, aq_276_6, if_neg (by omega), aq_276_120, ax_o_420, ax_gt, f1]
    have : k = l.length := by omega
    rw [this] at f2
    exact ⟨M1, rfl, f2⟩
  | succ m ih =>
    intro k p M hk tl h
    have L3 := h.2.1.1
    have z : k < l.length := by omega
    have kn : ((k : Int)).toNat = k := by omega
    have g : l.getD k (L, L) = l[k] := by rw [List.getD_eq_getElem?_getD, List.getElem?_eq_getElem z]; rfl
    rw [List.drop_eq_getElem_cons z] at tl
    obtain ⟨⟨a1, a2, a3, a4⟩, b, c⟩ := tl
    rw [k_sp h (by omega) (l[k].1 - p) p (by omega) a3]
    obtain ⟨M1, f1, f2⟩ := k_one (d := d) (e := l[k].2) h (by omega) a2 a4 b (by unfold q_fK; rw [kn, if_pos z, g]) (by unfold q_fN; rw [kn, if_pos z, g]) (by unfold q_fP; rw [kn, g])
    rw [f1]
    exact ih (k + 1) l[k].2 M1 (by omega) c f2
end
