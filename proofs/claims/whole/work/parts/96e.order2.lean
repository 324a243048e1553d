/-! orders: the model's by a number on the cells -/
theorem fct_r {n : Nat} (hn : n ≤ 6) : 1 ≤ fct n ∧ fct n ≤ 720 := by
  have h : n = 0 ∨ n = 1 ∨ n = 2 ∨ n = 3 ∨ n = 4 ∨ n = 5 ∨ n = 6 := by omega
  rcases h with rfl | rfl | rfl | rfl | rfl | rfl | rfl <;> decide
section
variable {d : Nat} {M : am_M}
theorem m_95l {x : Int} (x6 : x ≤ 6) : ∀ (j : Nat) (k : Int), k + j = x + 1 → 2 ≤ k → am_Ex d 95 5 [(0, x), (0, (fct (k - 1).toNat : Int)), (0, k)] [] M = some ((fct x.toNat : Int), M) := by
  intro j
  induction j with
  | zero =>
    intro k h k2
    rw [aq_95_5, if_neg (by omega), show (k - 1).toNat = x.toNat by omega]
  | succ j ih =>
    intro k h k2
    have e1 : (k + 1 - 1).toNat = (k - 1).toNat + 1 := by omega
    have e2 : fct ((k - 1).toNat + 1) = ((k - 1).toNat + 1) * fct (k - 1).toNat := rfl
    have r1 := fct_r (n := (k + 1 - 1).toNat) (by omega)
    have e3 : (fct (k - 1).toNat : Int) * k = (fct (k + 1 - 1).toNat : Int) := by
      rw [e1, e2, Int.natCast_mul, Int.mul_comm]
      congr 1
      omega
    rw [aq_95_5, if_pos (by omega), e3, ax_w32 (by omega) (by omega), ax_let, ax_w32 (by omega) (by omega), ax_let]
    exact ih (k + 1) (by omega) (by omega)
theorem m_95 {x : Int} (x0 : 0 ≤ x) (x6 : x ≤ 6) : am_Call d 95 [(0, x)] M = some ((fct x.toNat : Int), M) := by
  rw [aq_95]
  by_cases h : x < 2
  · have : x = 0 ∨ x = 1 := by omega
    rw [aq_95_5, if_neg (by omega)]
    rcases this with rfl | rfl <;> rfl
  · exact m_95l x6 (x - 1).toNat 2 (by omega) (by omega)
theorem inn_i {tk : Nat} : ∀ f sk i, inn f tk sk i < 99 → i ≤ inn f tk sk i := by
  intro f
  induction f with
  | zero => intro sk i h; have h : 99 < 99 := h; omega
  | succ f ih =>
    intro sk i h
    have h : (if tk.testBit i then inn f tk sk (i + 1) else if sk = 0 then i else inn f tk (sk - 1) (i + 1)) < 99 := h
    show i ≤ (if tk.testBit i then inn f tk sk (i + 1) else if sk = 0 then i else inn f tk (sk - 1) (i + 1))
    split at h
    · rename_i hb
      rw [if_pos hb]
      have := ih sk (i + 1) h
      omega
    · rename_i hb
      rw [if_neg hb]
      split at h
      · rename_i hs
        rw [if_pos hs]
        exact Nat.le_refl _
      · rename_i hs
        rw [if_neg hs]
        have := ih (sk - 1) (i + 1) h
        omega
/-- the loop within -/
theorem m_163i {n k left : Int} {tk : Nat} (hK : ax_K M) (ht : tk < 256) (k0 : 0 ≤ k) (k1 : k < 6) : ∀ (f sk i : Nat), inn f tk sk i < 8 → i + f ≤ 20 → sk ≤ 1000 → am_Ex d 163 31 [(2, 447), am_N, (0, n), (0, left), (0, (tk : Int)), (0, k), (0, (sk : Int)), (0, (i : Int))] [] M = am_Ex d 163 7 [(2, 447), am_N, (0, n), (0, left), (0, ((tk ||| 2 ^ inn f tk sk i : Nat) : Int)), (0, k + 1), am_N, am_N] [] (am_wr M 481 k (am_rd M 480 (inn f tk sk i : Int))) := by
  intro f
  induction f with
  | zero => intro sk i h; have h : 99 < 8 := h; omega
  | succ f ih =>
    intro sk i h hf hs
    have hbit : (am_and (am_shr (tk : Int) (i : Int)) 1 = 1) = (tk.testBit i = true) := by
      have := ax_bit (x := (tk : Int)) (t := (i : Int)) (by omega) (by omega) (by omega) (by omega)
      rw [Int.toNat_natCast, Int.toNat_natCast] at this
      exact this
    have hi : inn (f + 1) tk sk i = (if tk.testBit i = true then inn f tk sk (i + 1) else if sk = 0 then i else inn f tk (sk - 1) (i + 1)) := rfl
    rw [hi] at h ⊢
    have e38 : ∀ s2 : Nat, s2 ≤ 1000 → (tk.testBit i = true → s2 = sk) → (¬ tk.testBit i = true → s2 + 1 = sk) → am_Ex d 163 38 [(2, 447), am_N, (0, n), (0, left), (0, (tk : Int)), (0, k), (0, (sk : Int)), (0, (i : Int))] [] M = am_Ex d 163 31 [(2, 447), am_N, (0, n), (0, left), (0, (tk : Int)), (0, k), (0, (s2 : Int)), (0, ((i + 1 : Nat) : Int))] [] M := fun s2 hs2 h1 h2 => by
      rw [aq_163_38, m_65, Option.bind_some]
      dsimp only []
      by_cases hb : tk.testBit i = true
      · rw [if_neg (by rw [ax_b0, hbit]; exact fun q => q hb), ax_w32 (x := (sk : Int) - 0) (by omega) (by omega), ax_let, ax_w32 (x := (i : Int) + 1) (by omega) (by omega), ax_let, show (sk : Int) - 0 = (s2 : Int) by have := h1 hb; omega, show (i : Int) + 1 = ((i + 1 : Nat) : Int) by omega]
      · rw [if_pos (by rw [ax_b0, hbit]; exact hb), ax_w32 (x := (sk : Int) - 1) (by omega) (by omega), ax_let, ax_w32 (x := (i : Int) + 1) (by omega) (by omega), ax_let, show (sk : Int) - 1 = (s2 : Int) by have := h2 hb; omega, show (i : Int) + 1 = ((i + 1 : Nat) : Int) by omega]
    rw [aq_163_31, m_65, Option.bind_some]
    dsimp only []
    by_cases hb : tk.testBit i = true
    · rw [if_pos hb] at h
      rw [if_neg (by rw [ax_b0, hbit]; exact fun q => q hb), if_pos hb, e38 sk hs (fun _ => rfl) (fun q => absurd hb q)]
      exact ih sk (i + 1) h (by omega) hs
    · rw [if_neg hb] at h
      rw [if_pos (by rw [ax_b0, hbit]; exact hb), if_neg hb]
      by_cases h0 : sk = 0
      · rw [if_pos h0] at h
        have sh := ax_shl1 (k := (i : Int)) (by omega) (by omega)
        rw [Int.toNat_natCast] at sh
        have p := Nat.pow_lt_pow_right (a := 2) (n := 8) (m := i) (by decide) (by omega)
        have o := ax_orN (a := tk) (b := 2 ^ i) (by omega) (by omega)
        rw [if_pos h0, if_pos (by omega), sh, o, ax_let, show am_ob 447 11 = true from rfl, ax_gt, kr_447_50 hK, kr_447_51 hK, ax_a_480, ax_gi (by omega) (by omega), ax_a_481, ax_gi (by omega) (by omega), ax_let, ax_w32 (by omega) (by omega), ax_let]
      · rw [if_neg h0] at h
        rw [if_neg h0, if_neg (by omega), e38 (sk - 1) (by omega) (fun q => absurd q hb) (fun _ => by omega)]
        exact ih (sk - 1) (i + 1) h (by omega) (by omega)
/-- the loop outside -/
theorem m_163o {n : Int} (n6 : n ≤ 6) : ∀ (r : Nat) (k : Int) (left tk : Nat) (M : am_M), k + r = n → 0 ≤ k → left ≤ 720 → tk < 256 → ax_K M → (∀ i ∈ layo r left tk, i < 8) → ax_ok (am_Ex d 163 7 [(2, 447), am_N, (0, n), (0, (left : Int)), (0, (tk : Int)), (0, k), am_N, am_N] [] M) (fun _ M' => (∀ j : Nat, j < r → am_rd M' 481 (k + j) = am_rd M 480 (((layo r left tk).getD j 0 : Nat) : Int)) ∧ (∀ j, j < k → am_rd M' 481 j = am_rd M 481 j) ∧ ∀ c i, c ≠ 481 → am_rd M' c i = am_rd M c i) := by
  intro r
  induction r with
  | zero =>
    intro k left tk M h k0 hl ht hK hi
    rw [aq_163_7, if_neg (by omega)]
    exact ax_ok_some ⟨fun j hj => by omega, fun _ _ => rfl, fun _ _ _ => rfl⟩
  | succ r ih =>
    intro k left tk M h k0 hl ht hK hi
    have f1 := fct_r (n := r) (by omega)
    have e1 : am_w32 (am_w32 (n - 1) - k) = (r : Int) := by rw [ax_w32 (x := n - 1) (by omega) (by omega), ax_w32 (by omega) (by omega)]; omega
    have ed : am_div (left : Int) (fct r : Int) = ((left / fct r : Nat) : Int) := by
      rw [ax_div (by omega) (by omega) (by omega) (by omega), Int.tdiv_eq_ediv_of_nonneg (by omega)]
      exact (Int.natCast_ediv left (fct r)).symm
    have em : am_rem (left : Int) (fct r : Int) = ((left % fct r : Nat) : Int) := by
      rw [ax_rem (by omega) (by omega) (by omega) (by omega)]
      exact (Int.natCast_emod left (fct r)).symm
    have hl2 : layo (r + 1) left tk = inn 8 tk (left / fct r) 0 :: layo r (left % fct r) (tk ||| 2 ^ inn 8 tk (left / fct r) 0) := rfl
    rw [hl2] at hi ⊢
    have i8 := hi _ List.mem_cons_self
    have ld : left / fct r ≤ left := Nat.div_le_self _ _
    have lm : left % fct r ≤ left := Nat.mod_le _ _
    have w95 := m_95 (d := d) (M := M) (x := (r : Int)) (by omega) (by omega)
    rw [Int.toNat_natCast] at w95
    have p := Nat.pow_lt_pow_right (a := 2) (n := 8) (m := inn 8 tk (left / fct r) 0) (by decide) i8
    have ob := Nat.or_lt_two_pow (n := 8) (x := tk) (y := 2 ^ inn 8 tk (left / fct r) 0) (by omega) p
    have key := m_163i (d := d) (M := M) (n := n) (k := k) (left := ((left % fct r : Nat) : Int)) (tk := tk) hK ht k0 (by omega) 8 (left / fct r) 0 i8 (by omega) (by omega)
    rw [aq_163_7, if_pos (by omega), e1, w95, Option.bind_some]
    dsimp only []
    rw [if_neg (by omega), ed, ax_let, w95, Option.bind_some]
    dsimp only []
    rw [if_neg (by omega), em, ax_let]
    have key2 : am_Ex d 163 31 [(2, 447), am_N, (0, n), (0, ((left % fct r : Nat) : Int)), (0, (tk : Int)), (0, k), (0, ((left / fct r : Nat) : Int)), (0, 0)] [] M = _ := key
    rw [key2]
    generalize inn 8 tk (left / fct r) 0 = ii at *
    obtain ⟨rr, M2, e2, g1, g2, g3⟩ := ih (k + 1) (left % fct r) (tk ||| 2 ^ ii) (am_wr M 481 k (am_rd M 480 (ii : Int))) (by omega) (by omega) (by omega) ob (ax_Kw hK rfl) (fun i hm => hi i (List.mem_cons_of_mem _ hm))
    refine ⟨rr, M2, e2, fun j hj => ?_, fun j hj => ?_, fun c i hc => (g3 c i hc).trans (ax_wc hc)⟩
    · cases j with
      | zero =>
        rw [show k + ((0 : Nat) : Int) = k by omega, g2 k (by omega), ax_ws]
        rfl
      | succ j =>
        have := g1 j (by omega)
        rw [show k + ((j + 1 : Nat) : Int) = k + 1 + (j : Int) by omega, this, ax_wc (by omega)]
        rfl
    · rw [g2 j (by omega), ax_wi (by omega)]
theorem m_163 {n p : Int} {A : Int → Int} (hK : ax_K M) (n0 : 0 ≤ n) (n6 : n ≤ 6) (p0 : 0 ≤ p) (p1 : p < (fct n.toNat : Int)) (hA : ∀ j, 0 ≤ j → j < n → am_rd M 480 j = A j) : ax_ok (am_Call d 163 [(2, 447), (0, p), (0, n)] M) (fun _ M' => (∀ j, 0 ≤ j → j < n → am_rd M' 481 j = A (fnl (ixl n.toNat p.toNat) j)) ∧ ∀ c i, c ≠ 481 → am_rd M' c i = am_rd M c i) := by
  have f1 := fct_r (n := n.toNat) (by omega)
  have hix : ∀ i ∈ ixl n.toNat p.toNat, i < n.toNat := fun i hi => by
    have h := okp_all (n := n.toNat) (p := p.toNat) (by omega) (by omega)
    unfold okp at h
    exact Nat.le_of_ble_eq_true (List.all_eq_true.mp (Bool.and_eq_true_iff.mp (Bool.and_eq_true_iff.mp h).1).2 i hi)
  rw [aq_163]
  obtain ⟨r, M2, e2, g1, g2, g3⟩ := m_163o (d := d) n6 n.toNat 0 p.toNat 0 M (by omega) (by omega) (by omega) (by decide) hK (fun i hi => by have := hix i hi; omega)
  have e3 : am_Ex d 163 7 [(2, 447), am_N, (0, n), (0, p), (0, 0), (0, 0), am_N, am_N] [] M = some (r, M2) := by
    have : ((p.toNat : Nat) : Int) = p := by omega
    rw [this] at e2
    exact e2
  refine ⟨r, M2, e3, fun j j0 j1 => ?_, g3⟩
  have h := g1 j.toNat (by omega)
  rw [show (0 : Int) + ((j.toNat : Nat) : Int) = j by omega] at h
  have hr := ix_r (n := n.toNat) (p := p.toNat) (j := j) (by omega) (by omega) j0 (by omega)
  rw [h]
  show am_rd M 480 (fnl (ixl n.toNat p.toNat) j) = _
  exact hA _ hr.1 (by omega)
theorem m_96 {n : Int} (hK : ax_K M) (n0 : 0 ≤ n) (n6 : n ≤ 6) : ax_ok (am_Call d 96 [(2, 447), (0, n)] M) (fun _ M' => (∀ j, 0 ≤ j → j < n → am_rd M' 482 j = am_rd M 481 j) ∧ ∀ c i, c ≠ 482 → am_rd M' c i = am_rd M c i) := by
  have key : ∀ (j : Nat) (k : Int) (M1 : am_M), k + j = n → 0 ≤ k → ax_K M1 → (∀ j, 0 ≤ j → j < k → am_rd M1 482 j = am_rd M 481 j) → (∀ c i, c ≠ 482 → am_rd M1 c i = am_rd M c i) → ax_ok (am_Ex d 96 3 [(2, 447), (0, n), (0, k)] [] M1) (fun _ M' => (∀ j, 0 ≤ j → j < n → am_rd M' 482 j = am_rd M 481 j) ∧ ∀ c i, c ≠ 482 → am_rd M' c i = am_rd M c i) := by
    intro j
    induction j with
    | zero =>
      intro k M1 h k0 K1 o1 f1
      rw [aq_96_3, if_neg (by omega)]
      exact ax_ok_some ⟨fun j j0 j1 => o1 j j0 (by omega), f1⟩
    | succ j ih =>
      intro k M1 h k0 K1 o1 f1
      rw [aq_96_3, if_pos (by omega), show am_ob 447 11 = true from rfl, ax_gt, kr_447_51 K1, kr_447_52 K1, ax_a_481, ax_gi (by omega) (by omega), ax_a_482, ax_gi (by omega) (by omega), ax_let, ax_w32 (by omega) (by omega), ax_let]
      refine ih (k + 1) _ (by omega) (by omega) (ax_Kw K1 rfl) (fun x x0 x1 => ?_) fun c i hc => (ax_wc hc).trans (f1 c i hc)
      by_cases ex : x = k
      · rw [ex, ax_ws]; exact f1 481 k (by omega)
      · rw [ax_wi ex]; exact o1 x x0 (by omega)
  rw [aq_96]
  exact key n.toNat 0 M (by omega) (by omega) hK (fun j h0 h1 => by omega) fun _ _ _ => rfl
end
