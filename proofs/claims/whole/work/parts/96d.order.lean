/-! orders: the developers' next one on the cells -/
def OV (M : am_M) (v : Int → Int) (n : Int) : Prop := ∀ j, 0 ≤ j → j < n → am_rd M 445 j = v j
section
variable {d : Nat} {n : Int}
theorem c_37 {M : am_M} {v : Int → Int} {a b : Int} (hK : ax_K M) (h : OV M v n) (n6 : n ≤ 6) (a0 : 0 ≤ a) (a1 : a < n) (b0 : 0 ≤ b) (b1 : b < n) : ax_ok (am_Call d 37 [(2, 444), (0, a), (0, b)] M) (fun _ M' => OV M' (swF v a b) n ∧ ∀ x i, x ≠ 445 → am_rd M' x i = am_rd M x i) := by
  have K1 : ax_K (am_wr M 445 a (v b)) := ax_Kw hK rfl
  rw [aq_37, if_neg (by omega), if_pos (by omega), if_neg (by omega), if_pos (by omega), show am_ob 444 5 = true from rfl, ax_gt, kr_444_2 hK, ax_a_445, ax_gi (by omega) (by omega), ax_let, ax_a_445, ax_gi (by omega) (by omega), h a a0 a1, h b b0 b1, ax_let, kr_444_2 K1, ax_a_445, ax_gi (by omega) (by omega), ax_let]
  refine ax_ok_some ⟨fun j j0 j1 => ?_, fun x i hx => (ax_wc hx).trans (ax_wc hx)⟩
  unfold swF
  by_cases e1 : j = b
  · rw [if_pos e1, e1, ax_ws]
  · rw [if_neg e1, ax_wi e1]
    by_cases e2 : j = a
    · rw [if_pos e2, e2, ax_ws]
    · rw [if_neg e2, ax_wi e2]; exact h j j0 j1
theorem c_125r {M : am_M} {v : Int → Int} {l : Int} (hK : ax_K M) (h : OV M v n) (n6 : n ≤ 6) : ∀ e : Nat, (e : Int) < n → am_Ex d 125 12 [(2, 444), (0, l), (0, (e : Int) - 1), am_N, am_N, am_N] [] M = am_Ex d 125 28 [(2, 444), (0, l), (0, rsF v e), am_N, am_N, am_N] [] M := by
  intro e
  induction e with
  | zero =>
    intro _
    rw [aq_125_12, if_pos (by omega)]
    rfl
  | succ e ih =>
    intro he
    rw [show ((e + 1 : Nat) : Int) - 1 = e by omega, aq_125_12, if_neg (by omega), show am_ob 444 5 = true from rfl, ax_gt, kr_444_2 hK, ax_a_445, ax_gi (by omega) (by omega), ax_w32 (x := (e : Int) + 1) (by omega) (by omega), ax_a_445, ax_gi (by omega) (by omega), h e (by omega) (by omega), h (e + 1) (by omega) (by omega)]
    show _ = am_Ex d 125 28 [(2, 444), (0, l), (0, if v (e : Int) ≤ v ((e : Int) + 1) then (e : Int) else rsF v e), am_N, am_N, am_N] [] M
    by_cases hc : v (e : Int) ≤ v ((e : Int) + 1)
    · rw [if_pos hc, if_pos hc]
    · rw [if_neg hc, if_neg hc, ax_w32 (by omega) (by omega), ax_let, show (e : Int) + -1 = (e : Int) - 1 by omega]
      exact ih (by omega)
theorem c_125n {M : am_M} {v : Int → Int} {l r : Int} (hK : ax_K M) (h : OV M v n) (n6 : n ≤ 6) (r0 : 0 ≤ r) (r1 : r < n) : ∀ e : Nat, (e : Int) < n → am_Ex d 125 35 [(2, 444), (0, l), (0, r), (0, (e : Int)), am_N, am_N] [] M = am_Ex d 125 52 [(2, 444), (0, l), (0, r), (0, nxF v r e), am_N, am_N] [] M := by
  intro e
  induction e with
  | zero =>
    intro _
    rw [aq_125_35, ax_w32 (by omega) (by omega), if_pos (by omega)]
    rfl
  | succ e ih =>
    intro he
    have e1 : ((e + 1 : Nat) : Int) = (e : Int) + 1 := by omega
    rw [e1, aq_125_35, ax_w32 (x := r + 1) (by omega) (by omega)]
    show _ = am_Ex d 125 52 [(2, 444), (0, l), (0, r), (0, if ((e : Int) + 1) ≤ r + 1 then (e : Int) + 1 else if v ((e : Int) + 1) < v r then nxF v r e else (e : Int) + 1), am_N, am_N] [] M
    by_cases hl : ((e : Int) + 1) ≤ r + 1
    · rw [if_pos hl, if_pos hl]
    · rw [if_neg hl, if_neg hl, show am_ob 444 5 = true from rfl, ax_gt, kr_444_2 hK, ax_a_445, ax_gi (by omega) (by omega), ax_a_445, ax_gi (by omega) (by omega), h (e + 1) (by omega) (by omega), h r r0 r1]
      by_cases hc : v ((e : Int) + 1) < v r
      · rw [if_pos hc, if_pos hc, ax_w32 (by omega) (by omega), ax_let, show (e : Int) + 1 + -1 = (e : Int) by omega]
        exact ih (by omega)
      · rw [if_neg hc, if_neg hc]
theorem c_125v (n6 : n ≤ 6) : ∀ (f : Nat) (M : am_M) (v : Int → Int) (a b : Int), b - a ≤ 2 * (f : Int) → ax_K M → OV M v n → 0 ≤ a → b < n → -1 ≤ b → ax_ok (am_Ex d 125 63 [(2, 444), am_N, am_N, am_N, (0, a), (0, b)] [] M) (fun r M' => r = 1 ∧ OV M' (rvF f v a b) n ∧ ∀ x i, x ≠ 445 → am_rd M' x i = am_rd M x i) := by
  intro f
  induction f with
  | zero =>
    intro M v a b hf hK h a0 b1 b0
    rw [aq_125_63, if_neg (by omega)]
    exact ax_ok_some ⟨rfl, h, fun _ _ _ => rfl⟩
  | succ f ih =>
    intro M v a b hf hK h a0 b1 b0
    rw [aq_125_63]
    show ax_ok _ (fun r M' => r = 1 ∧ OV M' (if a < b then rvF f (swF v a b) (a + 1) (b - 1) else v) n ∧ ∀ x i, x ≠ 445 → am_rd M' x i = am_rd M x i)
    by_cases hc : a < b
    · obtain ⟨r, M1, e1, o1, f1⟩ := c_37 (d := d) hK h n6 a0 (by omega : a < n) (by omega : 0 ≤ b) b1
      rw [if_pos hc, if_pos hc, show am_ob 444 5 = true from rfl, ax_gt, e1, Option.bind_some]
      dsimp only []
      rw [ax_w32 (x := a + 1) (by omega) (by omega), ax_let, ax_w32 (x := b + -1) (by omega) (by omega), ax_let, show b + -1 = b - 1 by omega]
      exact ax_ok_mono (ih M1 _ (a + 1) (b - 1) (by omega) (ax_Kp e1 hK rfl) o1 (by omega) (by omega) (by omega)) fun r M' ⟨q1, q2, q3⟩ => ⟨q1, q2, fun x i hx => (q3 x i hx).trans (f1 x i hx)⟩
    · rw [if_neg hc, if_neg hc]
      exact ax_ok_some ⟨rfl, h, fun _ _ _ => rfl⟩
theorem c_125 {M : am_M} {v : Int → Int} (hK : ax_K M) (h : OV M v n) (hs : am_rd M 444 4 = n) (n1 : 1 ≤ n) (n6 : n ≤ 6) : ax_ok (am_Call d 125 [(2, 444)] M) (fun r M' => (match npF n.toNat v with
    | none => r = 0 ∧ OV M' v n
    | some w => r = 1 ∧ OV M' w n) ∧ ∀ x i, x ≠ 445 → am_rd M' x i = am_rd M x i) := by
  have rb := rs_b (u := v) (n.toNat - 1)
  have e0 : ((n.toNat - 1 : Nat) : Int) = n - 1 := by omega
  have hr := c_125r (d := d) (l := n - 1) hK h n6 (n.toNat - 1) (by omega)
  rw [e0] at hr
  rw [aq_125, show am_ob 444 5 = true from rfl, ax_gt, hs, show min n 6 = n by omega, ax_w32 (x := n - 1) (by omega) (by omega), ax_let, ax_w32 (by omega) (by omega), ax_let, hr, aq_125_28]
  unfold npF
  by_cases hc : rsF v (n.toNat - 1) < 0
  · rw [if_pos hc, if_pos hc]
    exact ax_ok_some ⟨⟨rfl, h⟩, fun _ _ _ => rfl⟩
  · have nb := nx_b (u := v) (r := rsF v (n.toNat - 1)) (by omega) (n.toNat - 1)
    have hn := c_125n (d := d) (l := n - 1) hK h n6 (r := rsF v (n.toNat - 1)) (by omega) (by omega) (n.toNat - 1) (by omega)
    rw [e0] at hn
    rw [if_neg hc, if_neg hc, hn, aq_125_52]
    obtain ⟨r, M1, e1, o1, f1⟩ := c_37 (d := d) hK h n6 (a := rsF v (n.toNat - 1)) (b := nxF v (rsF v (n.toNat - 1)) (n.toNat - 1)) (by omega) (by omega) nb.1 (by omega)
    rw [show am_ob 444 5 = true from rfl, ax_gt, e1, Option.bind_some]
    dsimp only []
    rw [ax_w32 (by omega) (by omega), ax_let]
    have en : ((n.toNat : Nat) : Int) - 1 = n - 1 := by omega
    rw [en]
    exact ax_ok_mono (c_125v (d := d) n6 6 M1 _ (rsF v (n.toNat - 1) + 1) (n - 1) (by omega) (ax_Kp e1 hK rfl) o1 (by omega) (by omega) (by omega)) fun r M' ⟨q1, q2, q3⟩ => ⟨⟨q1, q2⟩, fun x i hx => (q3 x i hx).trans (f1 x i hx)⟩
end
/-! the turns of a set, the lowest first -/
def asC (x t c : Int) : Int := if am_and (am_shr x t) 1 = 1 then c + 1 else c
def asF (x t : Int) (a : Int × (Int → Int)) : Int × (Int → Int) := if am_and (am_shr x t) 1 = 1 then (a.1 + 1, fun j => if j = a.1 then t else a.2 j) else a
theorem as_cB : ∀ x : Fin 256, (ax_fo (asC (x.val : Int)) 8 0 0 = (ax_pc 8 x.val : Int)) ∧ ∀ t : Fin 9, ax_fo (asC (x.val : Int)) t.val 0 0 ≤ (ax_pc 8 x.val : Int) := by decide +kernel
theorem as_c {x : Int} (x0 : 0 ≤ x) (x1 : x < 256) : ax_fo (asC x) 8 0 0 = ax_cn x ∧ ∀ t : Nat, t ≤ 8 → ax_fo (asC x) t 0 0 ≤ ax_cn x := by
  have h := as_cB ⟨x.toNat, by omega⟩
  simp only [Int.toNat_of_nonneg x0] at h
  exact ⟨h.1, fun t ht => h.2 ⟨t, by omega⟩⟩
theorem as_fc {x : Int} (n : Nat) : (ax_fo (asF x) n 0 (0, fun _ => 0)).1 = ax_fo (asC x) n 0 0 := by
  refine ax_fo_rel (α := Int × (Int → Int)) (β := Int) (f := asF x) (g := asC x) (P := fun _ a b => a.1 = b) n 0 (0, fun _ => 0) 0 (fun t a b _ _ h => ?_) rfl
  unfold asF asC
  split
  · show a.1 + 1 = b + 1
    rw [h]
  · exact h
def asA (x : Int) : Int → Int := (ax_fo (asF x) 8 0 (0, fun _ => 0)).2
def asP (t : Int) (a : Int × (Int → Int)) : Prop := (0 ≤ a.1 ∧ a.1 ≤ t) ∧ (∀ j, 0 ≤ j → j < a.1 → 0 ≤ a.2 j ∧ a.2 j < t) ∧ ∀ i j, 0 ≤ i → i < j → j < a.1 → a.2 i < a.2 j
theorem as_p {x : Int} (n : Nat) : asP n (ax_fo (asF x) n 0 (0, fun _ => 0)) := by
  have key := ax_fo_inv (f := asF x) (P := asP) n 0 (0, fun _ => 0) (fun t a t0 t1 h => by
    obtain ⟨⟨c0, c1⟩, h2, h3⟩ := h
    unfold asF
    split
    · refine ⟨⟨by show 0 ≤ a.1 + 1; omega, by show a.1 + 1 ≤ t + 1; omega⟩, fun j j0 j1 => ?_, fun i j i0 ij j1 => ?_⟩
      · have j1 : j < a.1 + 1 := j1
        show 0 ≤ (if j = a.1 then t else a.2 j) ∧ (if j = a.1 then t else a.2 j) < t + 1
        by_cases e : j = a.1
        · rw [if_pos e]; omega
        · rw [if_neg e]; have := h2 j j0 (by omega); omega
      · have j1 : j < a.1 + 1 := j1
        show (if i = a.1 then t else a.2 i) < (if j = a.1 then t else a.2 j)
        rw [if_neg (by omega)]
        by_cases e : j = a.1
        · rw [if_pos e]; exact (h2 i i0 (by omega)).2
        · rw [if_neg e]; exact h3 i j i0 ij (by omega)
    · exact ⟨⟨c0, by omega⟩, fun j j0 j1 => by have := h2 j j0 j1; omega, h3⟩) ⟨⟨Int.le_refl _, Int.le_refl _⟩, fun j h0 h1 => by have h1 : j < 0 := h1; omega, fun i j h0 h1 h2 => by have h2 : j < 0 := h2; omega⟩
  rw [show (0 : Int) + (n : Int) = n by omega] at key
  exact key
section
variable {d : Nat} {x : Int}
theorem c_36 {M : am_M} (hK : ax_K M) (x0 : 0 ≤ x) (x1 : x < 256) (c1 : 1 ≤ ax_cn x) (c6 : ax_cn x ≤ 6) : ax_ok (am_Call d 36 [(2, 444), (0, x)] M) (fun r M' => r = 1 ∧ am_rd M' 444 4 = ax_cn x ∧ OV M' (asA x) (ax_cn x) ∧ ∀ c i, c ≠ 445 → ¬ (c = 444 ∧ i = 4) → am_rd M' c i = am_rd M c i) := by
  obtain ⟨q8, qt⟩ := as_c x0 x1
  rw [aq_36, show am_ob 444 5 = true from rfl, ax_gt, ax_let]
  have key : ∀ (j : Nat) (t : Int) (M1 : am_M), t + j = 8 → 0 ≤ t → ax_K M1 → am_rd M1 444 4 = (ax_fo (asF x) t.toNat 0 (0, fun _ => 0)).1 → OV M1 (ax_fo (asF x) t.toNat 0 (0, fun _ => 0)).2 (ax_fo (asF x) t.toNat 0 (0, fun _ => 0)).1 → (∀ c i, c ≠ 445 → ¬ (c = 444 ∧ i = 4) → am_rd M1 c i = am_rd M c i) → ax_ok (am_Ex d 36 6 [(2, 444), (0, x), (0, t)] [] M1) (fun r M' => r = 1 ∧ am_rd M' 444 4 = ax_cn x ∧ OV M' (asA x) (ax_cn x) ∧ ∀ c i, c ≠ 445 → ¬ (c = 444 ∧ i = 4) → am_rd M' c i = am_rd M c i) := by
    intro j
    induction j with
    | zero =>
      intro t M1 h t0 K1 s1 o1 f1
      have t8 : t.toNat = 8 := by omega
      rw [t8] at s1 o1
      have e1 : (ax_fo (asF x) 8 0 (0, fun _ => 0)).1 = ax_cn x := (as_fc 8).trans q8
      rw [e1] at s1 o1
      rw [aq_36_6, if_neg (by omega), show am_ob 444 5 = true from rfl, ax_gt, s1, if_neg (by omega)]
      exact ax_ok_some ⟨rfl, s1, o1, f1⟩
    | succ j ih =>
      intro t M1 h t0 K1 s1 o1 f1
      have e32 : ∀ M2, am_Ex d 36 32 [(2, 444), (0, x), (0, t)] [] M2 = am_Ex d 36 6 [(2, 444), (0, x), (0, t + 1)] [] M2 := fun M2 => by
        rw [aq_36_32, ax_w32 (by omega) (by omega), ax_let]
      have es : (t + 1).toNat = t.toNat + 1 := by omega
      have et : (0 : Int) + ((t.toNat : Nat) : Int) = t := by omega
      have sn : ax_fo (asF x) (t + 1).toNat 0 (0, fun _ => 0) = asF x t (ax_fo (asF x) t.toNat 0 (0, fun _ => 0)) := by rw [es, ax_fo_snoc, et]
      have sc : ax_fo (asC x) (t + 1).toNat 0 0 = asC x t (ax_fo (asC x) t.toNat 0 0) := by rw [es, ax_fo_snoc, et]
      have lt := qt (t + 1).toNat (by omega)
      have fc := as_fc (x := x) t.toNat
      have pp := as_p (x := x) t.toNat
      rw [← fc] at sc
      generalize ax_fo (asF x) t.toNat 0 (0, fun _ => 0) = a at *
      rw [aq_36_6, if_pos (by omega)]
      by_cases hb : am_and (am_shr x t) 1 = 1
      · have sn2 : asF x t a = (a.1 + 1, fun j => if j = a.1 then t else a.2 j) := if_pos hb
        have sc2 : asC x t a.1 = a.1 + 1 := if_pos hb
        rw [sc, sc2] at lt
        have c0 := pp.1.1
        have K2 : ax_K (am_wr M1 445 a.1 t) := ax_Kw K1 rfl
        have g2 : am_rd (am_wr M1 445 a.1 t) 444 4 = a.1 := (ax_wc (by omega)).trans s1
        rw [if_neg (by omega), show am_ob 444 5 = true from rfl, ax_gt, s1, if_pos (by omega), kr_444_2 K1, ax_a_445, ax_gi (by omega) (by omega), ax_let, g2, ax_w32 (by omega) (by omega), ax_let, e32]
        refine ih (t + 1) _ (by omega) (by omega) (ax_Kw K2 rfl) ?_ ?_ ?_
        · rw [sn, sn2]; exact ax_ws
        · rw [sn, sn2]
          intro j j0 j1
          have j1 : j < a.1 + 1 := j1
          rw [ax_wc (by omega)]
          show _ = if j = a.1 then t else a.2 j
          by_cases ej : j = a.1
          · rw [if_pos ej, ej, ax_ws]
          · rw [if_neg ej, ax_wi ej]; exact o1 j j0 (by omega)
        · intro c i h1 h2
          exact (if_neg h2).trans ((ax_wc h1).trans (f1 c i h1 h2))
      · have sn2 : asF x t a = a := if_neg hb
        rw [if_pos (by have := ax_01 (am_shr x t); omega), e32]
        refine ih (t + 1) M1 (by omega) (by omega) K1 ?_ ?_ f1
        · rw [sn, sn2]; exact s1
        · rw [sn, sn2]; exact o1
  exact key 8 0 _ (by omega) (by omega) (ax_Kw hK rfl) ax_ws (fun j h0 h1 => by have h1 : j < 0 := h1; omega) (fun c i h1 h2 => if_neg h2)
/-- the model's -/
theorem as_T {T : Int} (x0 : 0 ≤ x) (T0 : 0 ≤ T) (T8 : T ≤ 8) (x1 : x < ((2 ^ T.toNat : Nat) : Int)) : ax_fo (asF x) T.toNat 0 (0, fun _ => 0) = ax_fo (asF x) 8 0 (0, fun _ => 0) := by
  have p8 := pw8 T0 T8
  have h := ax_fo_more (f := asF x) (T := T) (n := 8) (fun _ => True) T8 (fun _ _ _ _ _ => trivial) (fun i a i0 i1 _ => by
    unfold asF
    refine if_neg fun hb => ?_
    rw [ax_bit x0 (by omega) (by omega) (by omega)] at hb
    have h2 : x.toNat < 2 ^ i.toNat := Nat.lt_of_lt_of_le (show x.toNat < 2 ^ T.toNat by omega) (Nat.pow_le_pow_right (by decide) (by omega))
    rw [Nat.testBit_lt_two_pow h2] at hb
    cases hb) (T - 0).toNat 0 (0, fun _ => 0) (Int.le_refl _) T0 rfl trivial
  rw [show (T - 0).toNat = T.toNat by omega, show ((8 : Int) - 0).toNat = 8 from rfl] at h
  exact h.symm
theorem m_162 {M : am_M} {T : Int} (hK : ax_K M) (hT : am_rd M 448 0 = T) (T0 : 0 ≤ T) (T8 : T ≤ 8) (x0 : 0 ≤ x) (x1 : x < ((2 ^ T.toNat : Nat) : Int)) : ax_ok (am_Call d 162 [(2, 447), (0, x)] M) (fun r M' => r = ax_cn x ∧ (∀ j, 0 ≤ j → j < ax_cn x → am_rd M' 480 j = asA x j) ∧ ∀ c i, c ≠ 480 → am_rd M' c i = am_rd M c i) := by
  have p8 := pw8 T0 T8
  obtain ⟨q8, qt⟩ := as_c x0 (by omega)
  have key : ∀ (j : Nat) (t : Int) (M1 : am_M), t + j = T → 0 ≤ t → ax_K M1 → (∀ j, 0 ≤ j → j < (ax_fo (asF x) t.toNat 0 (0, fun _ => 0)).1 → am_rd M1 480 j = (ax_fo (asF x) t.toNat 0 (0, fun _ => 0)).2 j) → (∀ c i, c ≠ 480 → am_rd M1 c i = am_rd M c i) → ax_ok (am_Ex d 162 5 [(2, 447), (0, x), (0, (ax_fo (asF x) t.toNat 0 (0, fun _ => 0)).1), (0, t)] [] M1) (fun r M' => r = ax_cn x ∧ (∀ j, 0 ≤ j → j < ax_cn x → am_rd M' 480 j = asA x j) ∧ ∀ c i, c ≠ 480 → am_rd M' c i = am_rd M c i) := by
    intro j
    induction j with
    | zero =>
      intro t M1 h t0 K1 o1 f1
      have tT : t.toNat = T.toNat := by omega
      have e1 : (ax_fo (asF x) 8 0 (0, fun _ => 0)).1 = ax_cn x := (as_fc 8).trans q8
      rw [tT, as_T x0 T0 T8 x1] at o1
      rw [e1] at o1
      rw [tT, as_T x0 T0 T8 x1, e1, aq_162_5, show am_ob 447 11 = true from rfl, ax_gt, kr_447_0 K1, ax_a_448, ax_gi (by omega) (by omega), f1 448 0 (by omega), hT, if_neg (by omega)]
      exact ax_ok_some ⟨rfl, o1, f1⟩
    | succ j ih =>
      intro t M1 h t0 K1 o1 f1
      have es : (t + 1).toNat = t.toNat + 1 := by omega
      have et : (0 : Int) + ((t.toNat : Nat) : Int) = t := by omega
      have sn : ax_fo (asF x) (t + 1).toNat 0 (0, fun _ => 0) = asF x t (ax_fo (asF x) t.toNat 0 (0, fun _ => 0)) := by rw [es, ax_fo_snoc, et]
      have pp := as_p (x := x) t.toNat
      have nx := ih (t + 1)
      rw [sn] at nx
      generalize ax_fo (asF x) t.toNat 0 (0, fun _ => 0) = a at *
      have c0 := pp.1.1
      have c1 := pp.1.2
      have e22 : ∀ c M2, am_Ex d 162 22 [(2, 447), (0, x), (0, c), (0, t)] [] M2 = am_Ex d 162 5 [(2, 447), (0, x), (0, c), (0, t + 1)] [] M2 := fun c M2 => by
        rw [aq_162_22, ax_w32 (by omega) (by omega), ax_let]
      rw [aq_162_5, show am_ob 447 11 = true from rfl, ax_gt, kr_447_0 K1, ax_a_448, ax_gi (by omega) (by omega), f1 448 0 (by omega), hT, if_pos (by omega), m_65, Option.bind_some]
      dsimp only []
      by_cases hb : am_and (am_shr x t) 1 = 1
      · have sn2 : asF x t a = (a.1 + 1, fun j => if j = a.1 then t else a.2 j) := if_pos hb
        rw [sn2] at nx
        rw [if_neg (by rw [ax_b0]; exact fun q => q hb), kr_447_50 K1, ax_a_480, ax_gi (by omega) (by omega), ax_let, ax_w32 (by omega) (by omega), ax_let, e22]
        refine nx _ (by omega) (by omega) (ax_Kw K1 rfl) (fun j j0 j1 => ?_) fun c i hc => (ax_wc hc).trans (f1 c i hc)
        have j1 : j < a.1 + 1 := j1
        show _ = if j = a.1 then t else a.2 j
        by_cases ej : j = a.1
        · rw [if_pos ej, ej, ax_ws]
        · rw [if_neg ej, ax_wi ej]; exact o1 j j0 (by omega)
      · have sn2 : asF x t a = a := if_neg hb
        rw [sn2] at nx
        rw [if_pos (by rw [ax_b0]; exact hb), e22]
        exact nx M1 (by omega) (by omega) K1 o1 f1
  rw [aq_162]
  exact key T.toNat 0 M (by omega) (by omega) hK (fun j h0 h1 => by have h1 : j < 0 := h1; omega) fun _ _ _ => rfl
end
