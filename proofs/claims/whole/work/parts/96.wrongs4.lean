/-! wrongs: the developers' search -/
def nsF (D : Int → Int) (t j s : Int) : Int := if D j = t + 1 then am_or s (am_shl 1 j) else am_or s 0
theorem ns_b {D : Int → Int} {t n : Int} (n0 : 0 ≤ n) (n4 : n ≤ 4) : (0 ≤ ax_fo (nsF D t) (n - 0).toNat 0 0 ∧ ax_fo (nsF D t) (n - 0).toNat 0 0 < ((2 ^ n.toNat : Nat) : Int)) ∧ ∀ j, 0 ≤ j → j < n → (am_and (am_shr (ax_fo (nsF D t) (n - 0).toNat 0 0) j) 1 = 1 ↔ D j = t + 1) := by
  have key := ax_fo_inv (f := nsF D t) (P := fun i s => (0 ≤ s ∧ s < ((2 ^ i.toNat : Nat) : Int)) ∧ ∀ j, 0 ≤ j → j < i → (s.toNat.testBit j.toNat = true ↔ D j = t + 1)) (n - 0).toNat 0 0 (fun i s i0 i1 h => by
    obtain ⟨⟨s0, s1⟩, hb⟩ := h
    have e : (i + 1).toNat = i.toNat + 1 := by omega
    have p1 := bi_p i0 (by omega)
    have p0 := bi_p0 (f := i)
    have p2 : (2 ^ (i.toNat + 1) : Nat) = 2 ^ i.toNat * 2 := Nat.pow_succ ..
    have hz : s.toNat.testBit i.toNat = false := Nat.testBit_lt_two_pow (by omega)
    unfold nsF
    rw [e]
    by_cases hd : D i = t + 1
    · rw [if_pos hd, ax_shl1 i0 (by omega), ax_or_nn s0 (by omega) (by omega) (by omega), Int.toNat_natCast]
      have ob := Nat.or_lt_two_pow (n := i.toNat + 1) (x := s.toNat) (y := 2 ^ i.toNat) (by omega) (by omega)
      refine ⟨⟨by omega, by omega⟩, fun j j0 j1 => ?_⟩
      rw [Int.toNat_natCast, Nat.testBit_or]
      by_cases ej : j = i
      · rw [ej, Nat.testBit_two_pow_self, Bool.or_true]
        exact ⟨fun _ => hd, fun _ => rfl⟩
      · rw [Nat.testBit_two_pow_of_ne (by omega), Bool.or_false]
        exact hb j j0 (by omega)
    · rw [if_neg hd, ax_or0 s0 (by omega)]
      refine ⟨⟨s0, by omega⟩, fun j j0 j1 => ?_⟩
      by_cases ej : j = i
      · rw [ej, hz]
        exact ⟨fun h => absurd h Bool.false_ne_true, fun h => absurd h hd⟩
      · exact hb j j0 (by omega)) ⟨⟨by omega, by decide⟩, fun j h0 h1 => by omega⟩
  rw [show (0 : Int) + ((n - 0).toNat : Int) = n by omega] at key
  refine ⟨key.1, fun j j0 j1 => ?_⟩
  have p1 := bi_p (f := n) n0 (by omega)
  have p0 := bi_p0 (f := n)
  rw [ax_bit key.1.1 (by omega) j0 (by omega)]
  exact key.2 j j0 j1
theorem ax_gtb {α : Type} {b : Bool} {k : Option α} (h : b = true) : am_g b k = k := by rw [h]; rfl
def pwc (c : Int) : Nat → Int
  | 0 => 1
  | e + 1 => pwc c e * c
theorem pwc_b {c : Int} (c0 : 0 < c) (c9 : c ≤ 9) {e : Nat} (he : e ≤ 4) : 1 ≤ pwc c e ∧ pwc c e ≤ 6561 := by
  have hc : c = 1 ∨ c = 2 ∨ c = 3 ∨ c = 4 ∨ c = 5 ∨ c = 6 ∨ c = 7 ∨ c = 8 ∨ c = 9 := by omega
  have h4 : e = 0 ∨ e = 1 ∨ e = 2 ∨ e = 3 ∨ e = 4 := by omega
  rcases hc with rfl | rfl | rfl | rfl | rfl | rfl | rfl | rfl | rfl <;> (rcases h4 with rfl | rfl | rfl | rfl | rfl <;> decide)
theorem dgt_0 {c : Int} : ∀ e : Nat, dgt c e 0 = 0 := by
  intro e
  induction e with
  | zero => exact Int.zero_emod c
  | succ e ih => show dgt c e (0 / c) = 0; rw [Int.zero_ediv]; exact ih
/-- one plan weighed -/
def wsF (c : Int) (e : Nat) (B : Int) (LB : Int → Int) (p : Int) (a : Int × Int) : Int × Int := if (a.1 = -1 ∨ clz c e p < a.1) ∧ LB p ≤ B then (clz c e p, p) else a
def wrR (c n i : Int) (a : Int × Int) : Int := if a.1 = -1 ∨ i = -1 then a.1 else if dgt c (n - 1 - i).toNat a.2 = 0 then 8 else dgt c (n - 1 - i).toNat a.2 - 1
section
variable {T n al c B i : Int} {d : Nat} {KV : Int → Int → Int}
def ckD (c n p : Int) : Int → Int := fun j => dgt c (n - 1 - j).toNat p
def ck (c n T : Int) (KV : Int → Int → Int) (p : Int) : Int := ax_fo (fun t s => s + KV t (ax_fo (nsF (ckD c n p) t) (n - 0).toNat 0 0)) (T - 0).toNat 0 0
theorem c_4 {M : am_M} {p : Int} (hK : ax_K M) (hT : am_rd M 2 5 = T) (T0 : 0 ≤ T) (T8 : T ≤ 8) (n1 : 1 ≤ n) (n4 : n ≤ 4) (h : PLN M c n p) (hV : ∀ t s, 0 ≤ t → t < T → 0 ≤ s → s < ((2 ^ n.toNat : Nat) : Int) → am_rd M (432 + t) s = KV t s ∧ 0 ≤ KV t s ∧ KV t s ≤ 1) : am_Call d 4 [(2, 424), (0, n)] M = some (ck c n T KV p, M) := by
  rw [aq_4]
  unfold ck
  have key := ax_loop (X := fun t s => am_Ex d 4 5 [(2, 424), (0, n), (0, s), (0, t), am_N, am_N] [] M) (f := fun t s => s + KV t (ax_fo (nsF (ckD c n p) t) (n - 0).toNat 0 0)) (E := fun s => some (s, M)) (n := T) (fun t s => 0 ≤ t ∧ 0 ≤ s ∧ s ≤ t) (fun t s ⟨t0, s0, s1⟩ t1 => by
    obtain ⟨b1, b2⟩ := ns_b (D := ckD c n p) (t := t) (by omega : 0 ≤ n) n4
    have hv := hV t _ t0 t1 b1.1 b1.2
    have p16 : (2 ^ n.toNat : Nat) ≤ 16 := Nat.pow_le_pow_right (n := 2) (by decide) (by omega : n.toNat ≤ 4)
    have inner := ax_loop (X := fun j x => am_Ex d 4 18 [(2, 424), (0, n), (0, s), (0, t), (0, x), (0, j)] [] M) (f := nsF (ckD c n p) t) (E := fun x => am_Ex d 4 43 [(2, 424), (0, n), (0, s), (0, t), (0, x), am_N] [] M) (n := n) (fun j _ => 0 ≤ j) (fun j x j0 j1 => by
      refine ⟨?_, by omega⟩
      show am_Ex d 4 18 [(2, 424), (0, n), (0, s), (0, t), (0, x), (0, j)] [] M = am_Ex d 4 18 [(2, 424), (0, n), (0, s), (0, t), (0, nsF (ckD c n p) t j x), (0, j + 1)] [] M
      rw [aq_4_18, if_pos j1, if_pos (by omega), show am_ob 424 1 = true from rfl, ax_gt, kr_424_6 hK, ax_a_440, ax_gi (by omega) (by omega), h j j0 j1, ax_w32 (x := t + 1) (by omega) (by omega)]
      unfold nsF
      by_cases e : dgt c (n - 1 - j).toNat p = t + 1
      · rw [if_pos e, if_pos (show ckD c n p j = t + 1 from e), ax_let, ax_w32 (x := j + 1) (by omega) (by omega), ax_let]
      · rw [if_neg e, if_neg (show ¬ ckD c n p j = t + 1 from e), ax_let, ax_w32 (x := j + 1) (by omega) (by omega), ax_let]) (fun x _ => by
      show am_Ex d 4 18 [(2, 424), (0, n), (0, s), (0, t), (0, x), (0, n)] [] M = _
      rw [aq_4_18, if_neg (Int.lt_irrefl n)])
    have in2 := inner (n - 0).toNat 0 0 (by omega) (by omega)
    constructor
    · show am_Ex d 4 5 [(2, 424), (0, n), (0, s), (0, t), am_N, am_N] [] M = am_Ex d 4 5 [(2, 424), (0, n), (0, s + KV t (ax_fo (nsF (ckD c n p) t) (n - 0).toNat 0 0)), (0, t + 1), am_N, am_N] [] M
      rw [aq_4_5, show am_ob 424 1 = true from rfl, ax_gt, kr_424_0 hK, show am_ob 2 2 = true from rfl, ax_gt, hT, if_pos t1, if_pos (by omega)]
      refine in2.trans ?_
      generalize ax_fo (nsF (ckD c n p) t) (n - 0).toNat 0 0 = x at *
      rw [aq_4_43, show am_ob 424 1 = true from rfl, ax_gt, kr_424_5 hK, ax_q_431, ax_gi (by omega) (by omega), kp_rf hK t0 (by omega), kp_ar t0 (by omega), ax_gi (by omega) (by omega), hv.1, ax_w32 (x := s + KV t x) (by omega) (by omega), ax_let, ax_w32 (x := t + 1) (by omega) (by omega), ax_let]
    · omega) (fun s _ => by
    show am_Ex d 4 5 [(2, 424), (0, n), (0, s), (0, T), am_N, am_N] [] M = _
    rw [aq_4_5, show am_ob 424 1 = true from rfl, ax_gt, kr_424_0 hK, show am_ob 2 2 = true from rfl, ax_gt, hT, if_neg (Int.lt_irrefl T)])
  exact key (T - 0).toNat 0 0 (by omega) (by omega)
theorem c_106s (c0 : 0 < c) (c9 : c ≤ 9) (T0 : 0 ≤ T) (T8 : T ≤ 8) (n1 : 1 ≤ n) (n4 : n ≤ 4) (i0 : -1 ≤ i) (i1 : i < n) (L : Int) (L1 : L ≤ 6561) (hV0 : ∀ t s, 0 ≤ t → t < T → 0 ≤ s → s < ((2 ^ n.toNat : Nat) : Int) → 0 ≤ KV t s ∧ KV t s ≤ 1) : ∀ (j : Nat) (p : Int) (a : Int × Int) (M : am_M), p + j = L → 0 ≤ p → ax_K M → am_rd M 2 5 = T → PLN M c n p → (a.1 = -1 ∨ (0 ≤ a.1 ∧ ∀ j, 0 ≤ j → j < n → am_rd M 441 j = dgt c (n - 1 - j).toNat a.2)) → (∀ t s, 0 ≤ t → t < T → 0 ≤ s → s < ((2 ^ n.toNat : Nat) : Int) → am_rd M (432 + t) s = KV t s) → ax_ok (am_Ex d 106 34 [(2, 424), (0, n), (0, B), (0, i), (0, c), (0, L), (0, a.1), (0, p), am_N] [] M) (fun r M' => r = wrR c n i (ax_fo (wsF c n.toNat B (ck c n T KV)) j p a) ∧ ∀ x y, x ≠ 440 → x ≠ 441 → am_rd M' x y = am_rd M x y) := by
  intro j
  induction j with
  | zero =>
    intro p a M h p0 hK hT hP ha hV
    obtain ⟨f, b⟩ := a
    have e79 : ∀ f, am_Ex d 106 79 [am_N, am_N, am_N, (0, i), am_N, am_N, (0, f), am_N, am_N] [] M = some (if i = -1 then f else -1, M) := fun f => by
      rw [aq_106_79]
      by_cases hi : i = -1
      · rw [if_pos hi, if_pos hi]
      · rw [if_neg hi, if_neg hi]
    show ax_ok (am_Ex d 106 34 [(2, 424), (0, n), (0, B), (0, i), (0, c), (0, L), (0, f), (0, p), am_N] [] M) (fun r M' => r = wrR c n i (f, b) ∧ _)
    unfold wrR
    dsimp only at ha ⊢
    rw [aq_106_34, if_neg (by omega)]
    by_cases hf : f = -1
    · rw [if_pos hf, e79, if_pos (Or.inl hf), hf, ite_self]
      exact ax_ok_some ⟨rfl, fun _ _ _ _ => rfl⟩
    · rw [if_neg hf]
      by_cases hi : i < 0
      · rw [if_pos hi, e79, if_pos (by omega), if_pos (Or.inr (by omega))]
        exact ax_ok_some ⟨rfl, fun _ _ _ _ => rfl⟩
      · rcases ha with ha | ha
        · exact absurd ha hf
        have hd := ha.2 i (by omega) i1
        have hr := dgt_r (c := c) c0 (n - 1 - i).toNat b
        have hw : ¬ (f = -1 ∨ i = -1) := by omega
        rw [if_neg hi, if_pos (by omega), show am_ob 424 1 = true from rfl, ax_gt, kr_424_7 hK, ax_a_441, ax_gi (by omega) (by omega), hd, if_neg hw]
        by_cases hz : dgt c (n - 1 - i).toNat b = 0
        · rw [if_pos hz, if_pos hz]
          exact ax_ok_some ⟨rfl, fun _ _ _ _ => rfl⟩
        · rw [if_neg hz, if_neg hz, ax_w32 (by omega) (by omega)]
          exact ax_ok_some ⟨rfl, fun _ _ _ _ => rfl⟩
  | succ j ih =>
    intro p a M h p0 hK hT hP ha hV
    obtain ⟨f, b⟩ := a
    dsimp only at ha
    have next : ∀ (g : Int × Int) (M1 : am_M), ax_K M1 → PLN M1 c n p → (g.1 = -1 ∨ (0 ≤ g.1 ∧ ∀ j, 0 ≤ j → j < n → am_rd M1 441 j = dgt c (n - 1 - j).toNat g.2)) → (∀ x y, x ≠ 440 → x ≠ 441 → am_rd M1 x y = am_rd M x y) → ax_ok (am_Ex d 106 64 [(2, 424), (0, n), (0, B), (0, i), (0, c), (0, L), (0, g.1), (0, p), am_N] [] M1) (fun r M' => r = wrR c n i (ax_fo (wsF c n.toNat B (ck c n T KV)) j (p + 1) g) ∧ ∀ x y, x ≠ 440 → x ≠ 441 → am_rd M' x y = am_rd M x y) := fun g M1 K1 P1 a1 f1 => by
      obtain ⟨r, M2, e2, P2, f2⟩ := c_2 (d := d) K1 c0 c9 n1 n4 P1
      rw [aq_106_64, show am_ob 424 1 = true from rfl, ax_gt, e2, Option.bind_some]
      dsimp only []
      rw [ax_w32 (x := p + 1) (by omega) (by omega), ax_let]
      refine ax_ok_mono (ih (p + 1) g M2 (by omega) (by omega) (ax_Kp e2 K1 rfl) ?_ P2 ?_ ?_) fun r M' ⟨q, f⟩ => ⟨q, fun x y h1 h2 => (f x y h1 h2).trans ((f2 x y h1).trans (f1 x y h1 h2))⟩
      · rw [f2 2 5 (by omega), f1 2 5 (by omega) (by omega)]; exact hT
      · rcases a1 with a1 | a1
        · exact Or.inl a1
        · exact Or.inr ⟨a1.1, fun j j0 j1 => (f2 441 j (by omega)).trans (a1.2 j j0 j1)⟩
      · intro t s t0 t1 s0 s1
        rw [f2 (432 + t) s (by omega), f1 (432 + t) s (by omega) (by omega)]
        exact hV t s t0 t1 s0 s1
    have cz := clz_r (c := c) n.toNat p
    have e3 := c_3 (d := d) hK n1 n4 hP
    have e4 := c_4 (d := d) hK hT T0 T8 n1 n4 hP (fun t s t0 t1 s0 s1 => ⟨hV t s t0 t1 s0 s1, hV0 t s t0 t1 s0 s1⟩)
    show ax_ok (am_Ex d 106 34 [(2, 424), (0, n), (0, B), (0, i), (0, c), (0, L), (0, f), (0, p), am_N] [] M) (fun r M' => r = wrR c n i (ax_fo (wsF c n.toNat B (ck c n T KV)) j (p + 1) (wsF c n.toNat B (ck c n T KV) p (f, b))) ∧ _)
    have e48 : (f = -1 ∨ clz c n.toNat p < f) → ax_ok (am_Ex d 106 48 [(2, 424), (0, n), (0, B), (0, i), (0, c), (0, L), (0, f), (0, p), (0, clz c n.toNat p)] [] M) (fun r M' => r = wrR c n i (ax_fo (wsF c n.toNat B (ck c n T KV)) j (p + 1) (wsF c n.toNat B (ck c n T KV) p (f, b))) ∧ ∀ x y, x ≠ 440 → x ≠ 441 → am_rd M' x y = am_rd M x y) := fun hf => by
      rw [aq_106_48, show am_ob 424 1 = true from rfl, ax_gt, e4, Option.bind_some]
      dsimp only []
      unfold wsF
      by_cases hb : ck c n T KV p ≤ B
      · rw [if_pos hb, kr_424_6 hK, kr_424_7 hK, ax_gtb (by rfl), ax_let, if_pos ⟨hf, hb⟩]
        refine next (clz c n.toNat p, p) _ (ax_Kc hK rfl) (fun j j0 j1 => ?_) (Or.inr ⟨cz.1, fun j j0 j1 => ?_⟩) (fun x y h1 h2 => ?_)
        · rw [ax_rc, if_neg (by omega)]; exact hP j j0 j1
        · rw [ax_rc, if_pos (by omega), show (0 : Int) + (j - 0) = j by omega]; exact hP j j0 j1
        · rw [ax_rc, if_neg (by omega)]
      · rw [if_neg hb, if_neg (fun q => hb q.2)]
        exact next (f, b) M hK hP ha fun _ _ _ _ => rfl
    rw [aq_106_34, if_pos (by omega), show am_ob 424 1 = true from rfl, ax_gt, e3, Option.bind_some]
    dsimp only []
    by_cases h1 : f = -1
    · rw [if_pos h1]
      exact e48 (Or.inl h1)
    · rw [if_neg h1]
      by_cases h2 : clz c n.toNat p < f
      · rw [if_pos h2]
        exact e48 (Or.inr h2)
      · rw [if_neg h2]
        have : wsF c n.toNat B (ck c n T KV) p (f, b) = (f, b) := if_neg fun q => q.1.elim h1 h2
        rw [this]
        exact next (f, b) M hK hP ha fun _ _ _ _ => rfl
theorem c_106 {M : am_M} (hK : ax_K M) (hT : am_rd M 2 5 = T) (hc : T + 1 = c) (T0 : 0 ≤ T) (T8 : T ≤ 8) (n1 : 1 ≤ n) (n4 : n ≤ 4) (i0 : -1 ≤ i) (i1 : i < n) (hV : ∀ t s, 0 ≤ t → t < T → 0 ≤ s → s < ((2 ^ n.toNat : Nat) : Int) → am_rd M (432 + t) s = KV t s ∧ 0 ≤ KV t s ∧ KV t s ≤ 1) : ax_ok (am_Call d 106 [(2, 424), (0, n), (0, B), (0, i)] M) (fun r M' => r = wrR c n i (ax_fo (wsF c n.toNat B (ck c n T KV)) (pwc c n.toNat).toNat 0 (-1, 0)) ∧ ∀ x y, x ≠ 440 → x ≠ 441 → am_rd M' x y = am_rd M x y) := by
  have c0 : 0 < c := by omega
  have c9 : c ≤ 9 := by omega
  have pb := pwc_b c0 c9 (e := n.toNat) (by omega)
  have key : ∀ (j : Nat) (k : Int) (M1 : am_M), k + j = n → 0 ≤ k → ax_K M1 → (∀ x, 0 ≤ x → x < k → am_rd M1 440 x = 0) → (∀ x y, x ≠ 440 → am_rd M1 x y = am_rd M x y) → ax_ok (am_Ex d 106 11 [(2, 424), (0, n), (0, B), (0, i), (0, c), (0, pwc c k.toNat), (0, k), am_N, am_N] [] M1) (fun r M' => r = wrR c n i (ax_fo (wsF c n.toNat B (ck c n T KV)) (pwc c n.toNat).toNat 0 (-1, 0)) ∧ ∀ x y, x ≠ 440 → x ≠ 441 → am_rd M' x y = am_rd M x y) := by
    intro j
    induction j with
    | zero =>
      intro k M1 h k0 K1 hz f1
      have : k = n := by omega
      subst this
      rw [aq_106_11, if_neg (Int.lt_irrefl k), aq_106_29]
      refine ax_ok_mono (c_106s c0 c9 T0 T8 n1 n4 i0 i1 (pwc c k.toNat) pb.2 (fun t s t0 t1 s0 s1 => (hV t s t0 t1 s0 s1).2) (pwc c k.toNat).toNat 0 (-1, 0) M1 (by omega) (by omega) K1 (by rw [f1 2 5 (by omega)]; exact hT) (fun x x0 x1 => by rw [hz x x0 x1, dgt_0]) (Or.inl rfl) (fun t s t0 t1 s0 s1 => by rw [f1 (432 + t) s (by omega)]; exact (hV t s t0 t1 s0 s1).1)) fun r M' ⟨q, f⟩ => ⟨q, fun x y h1 h2 => (f x y h1 h2).trans (f1 x y h1)⟩
    | succ j ih =>
      intro k M1 h k0 K1 hz f1
      have p1 := pwc_b c0 c9 (e := (k + 1).toNat) (by omega)
      have e1 : (k + 1).toNat = k.toNat + 1 := by omega
      have e2 : pwc c (k + 1).toNat = pwc c k.toNat * c := by rw [e1]; rfl
      rw [aq_106_11, if_pos (by omega), if_pos (by omega), ← e2, ax_w32 (by omega) (by omega), ax_let, show am_ob 424 1 = true from rfl, ax_gt, kr_424_6 K1, ax_a_440, ax_gi (by omega) (by omega), ax_let, ax_w32 (by omega) (by omega), ax_let]
      refine ih (k + 1) _ (by omega) (by omega) (ax_Kw K1 rfl) (fun x x0 x1 => ?_) (fun x y hx => (ax_wc hx).trans (f1 x y hx))
      by_cases ex : x = k
      · rw [ex, ax_ws]
      · rw [ax_wi ex]; exact hz x x0 (by omega)
  rw [aq_106, show am_ob 424 1 = true from rfl, ax_gt, kr_424_0 hK, show am_ob 2 2 = true from rfl, ax_gt, hT, hc, ax_w32 (by omega) (by omega), ax_let]
  exact key n.toNat 0 M (by omega) (by omega) hK (fun x h0 h1 => by omega) fun _ _ _ => rfl
end
