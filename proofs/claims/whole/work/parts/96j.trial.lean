/-! a trial's order: the searches -/
theorem ov_r {z n o T : Int} (T0 : 0 ≤ T) (T8 : T ≤ 8) (z0 : 0 ≤ z) (z1 : z < ((2 ^ T.toNat : Nat) : Int)) (hn : ax_cn z = n) (n6 : n ≤ 6) (o0 : 0 ≤ o) (o1 : o < (fct n.toNat : Int)) {k : Int} (k0 : 0 ≤ k) (k1 : k < n) : 0 ≤ ov z n o k ∧ ov z n o k < T := by
  have p8 := pw8 T0 T8
  have e := (as_fc (x := z) 8).trans (as_c z0 (by omega)).1
  have p := (as_p (x := z) T.toNat).2.1
  have hr := ix_r (n := n.toNat) (p := o.toNat) (j := k) (by omega) (by omega) k0 (by omega)
  rw [as_T z0 T0 T8 z1, e] at p
  have := p (fnl (ixl n.toNat o.toNat) k) hr.1 (by omega)
  unfold ov
  show 0 ≤ asA z _ ∧ asA z _ < T
  unfold asA
  omega
def trF (co : Int → Int) (o : Int) (a : Int × Int) : Int × Int := if a.1 < 0 ∨ co o < a.1 then (co o, o) else a
def trR (z n i : Int) (a : Int × Int) : Int := if 0 ≤ i then ov z n a.2 i else if i = -2 then am_ldiv a.1 (gI a.1 (hP (n - 1).toNat)) else am_ldiv (hP (n - 1).toNat) (gI a.1 (hP (n - 1).toNat))
def coF (W H : Int → Int) (z n m o : Int) : Int := cF n (fun k => W (ov z n o k)) (fun k => 100 - H (8 * m + ov z n o k)) n.toNat
section
variable {d : Nat} {z n m i T : Int} {W H : Int → Int}
theorem c_125p {M : am_M} {o : Int} (hK : ax_K M) (z0 : 0 ≤ z) (z1 : z < 256) (hn : ax_cn z = n) (n1 : 1 ≤ n) (n6 : n ≤ 6) (o0 : 0 ≤ o) (o1 : o < (fct n.toNat : Int)) (hs : am_rd M 444 4 = n) (ho : OV M (ov z n o) n) : ax_ok (am_Call d 125 [(2, 444)] M) (fun r M' => (if o + 1 = (fct n.toNat : Int) then r = 0 else r = 1 ∧ OV M' (ov z n (o + 1)) n) ∧ ∀ x i, x ≠ 445 → am_rd M' x i = am_rd M x i) := by
  obtain ⟨r, M1, e1, q1, f1⟩ := c_125o (d := d) hK z0 z1 hn n1 n6 o0 o1 hs ho (fun j j0 j1 => ⟨rfl, ix_r (n := n.toNat) (p := o.toNat) (by omega) (by omega) j0 j1⟩)
  refine ⟨r, M1, e1, ?_, f1⟩
  by_cases hl : o + 1 = (fct n.toNat : Int)
  · rw [if_pos hl] at q1 ⊢
    exact q1
  · rw [if_neg hl] at q1 ⊢
    obtain ⟨q2, w, q3, q4⟩ := q1
    exact ⟨q2, fun j j0 j1 => (q3 j j0 j1).trans (q4 j j0 (by omega)).1⟩
theorem co_b (T0 : 0 ≤ T) (T8 : T ≤ 8) (z0 : 0 ≤ z) (z1 : z < ((2 ^ T.toNat : Nat) : Int)) (hn : ax_cn z = n) (n5 : n ≤ 5) (n1 : 1 ≤ n) (m0 : 0 ≤ m) (m6 : m < 6) (hW : ∀ t, 0 ≤ t → t < 8 → 0 ≤ W t ∧ W t ≤ 99) (hH : ∀ j, 0 ≤ j → j < 48 → 0 ≤ H j ∧ H j ≤ 99) {o : Int} (o0 : 0 ≤ o) (o1 : o < (fct n.toNat : Int)) : WM n (fun k => W (ov z n o k)) (fun k => 100 - H (8 * m + ov z n o k)) ∧ 0 ≤ coF W H z n m o ∧ coF W H z n m o ≤ 5000000000000 := by
  have hw : WM n (fun k => W (ov z n o k)) (fun k => 100 - H (8 * m + ov z n o k)) := fun k k0 k1 => by
    have r := ov_r T0 T8 z0 z1 hn (by omega) o0 o1 k0 k1
    have w := hW (ov z n o k) r.1 (by omega)
    have h := hH (8 * m + ov z n o k) (by omega) (by omega)
    exact ⟨w, by show 0 ≤ 100 - H (8 * m + ov z n o k); omega, by show 100 - H (8 * m + ov z n o k) ≤ 100; omega⟩
  exact ⟨hw, cF_B hw (by omega) (by omega)⟩
theorem c_210s {M0 : am_M} {nm : Int} (b : cg_B M0) (hT : am_rd M0 2 5 = T) (C : CH M0 8 nm H) (T0 : 0 ≤ T) (T8 : T ≤ 8) (z0 : 0 ≤ z) (z1 : z < ((2 ^ T.toNat : Nat) : Int)) (hn : ax_cn z = n) (n1 : 1 ≤ n) (n5 : n ≤ 5) (m0 : 0 ≤ m) (m6 : m < 6) (hW : ∀ t, 0 ≤ t → t < 8 → 0 ≤ W t ∧ W t ≤ 99) (hH : ∀ j, 0 ≤ j → j < 48 → 0 ≤ H j ∧ H j ≤ 99) (gW : ∀ t, 0 ≤ t → t < 8 → am_rd M0 3 t = W t) (i0 : -2 ≤ i) (i1 : i < n) : ∀ (j : Nat) (o : Int) (a : Int × Int) (M : am_M), o + j = (fct n.toNat : Int) → 0 ≤ o → (1 ≤ o → 0 ≤ a.1) → a.1 ≤ 5000000000000 → (0 ≤ a.1 → ∀ k, 0 ≤ k → k < n → am_rd M 446 k = ov z n a.2 k) → ax_K M → am_rd M 444 4 = n → (∀ x y, x ≠ 445 → x ≠ 446 → ¬ (x = 444 ∧ y = 4) → am_rd M x y = am_rd M0 x y) → (1 ≤ j → OV M (ov z n o) n) → ax_ok (am_Ex d 210 9 [(2, 444), (0, m), am_N, (0, i), (1, a.1), am_N, (0, if j = 0 then 0 else 1), (0, o), am_N, am_N, am_N] [] M) (fun r M' => r = trR z n i (ax_fo (trF (coF W H z n m)) j o a) ∧ ∀ x y, x ≠ 445 → x ≠ 446 → ¬ (x = 444 ∧ y = 4) → am_rd M' x y = am_rd M0 x y) := by
  have p8 := pw8 T0 T8
  have fr := fct_r (n := n.toNat) (by omega)
  intro j
  induction j with
  | zero =>
    intro o a M h o0 ha ha2 hb hK hs f _
    obtain ⟨l, g⟩ := a
    have l0 : 0 ≤ l := ha (by omega)
    have l1 : l ≤ 5000000000000 := ha2
    have hb : ∀ k, 0 ≤ k → k < n → am_rd M 446 k = ov z n g k := hb l0
    have e67 : ∀ (e : Nat) (k : Int), k + e = n → 1 ≤ k → am_Ex d 210 67 [(2, 444), am_N, am_N, (0, i), (1, l), am_N, am_N, (1, hP (k - 1).toNat), am_N, (0, k), am_N] [] M = some (if i = -2 then am_ldiv l (gI l (hP (n - 1).toNat)) else am_ldiv (hP (n - 1).toNat) (gI l (hP (n - 1).toNat)), M) := by
      intro e
      induction e with
      | zero =>
        intro k hk k1
        have p := hP_b (j := (n - 1).toNat) (by omega)
        have gp := gI_pos (a := l) (b := hP (n - 1).toNat) (by omega)
        have ek : (k - 1).toNat = (n - 1).toNat := by omega
        rw [ek, aq_210_67, show am_ob 444 5 = true from rfl, ax_gt, hs, if_neg (by omega), c_35 l0 (by omega) (by omega) (by omega), Option.bind_some]
        dsimp only []
        rw [if_neg (by rw [ax_ce]; exact gp)]
        by_cases hi : i = -2
        · rw [if_pos hi, if_pos hi, if_neg gp]
        · rw [if_neg hi, if_neg hi, if_neg gp]
      | succ e ih =>
        intro k hk k1
        have p := hP_b (j := (k + 1 - 1).toNat) (by omega)
        have ep : hP (k - 1).toNat * 100 = hP (k + 1 - 1).toNat := by rw [show (k + 1 - 1).toNat = (k - 1).toNat + 1 by omega]; rfl
        rw [aq_210_67, show am_ob 444 5 = true from rfl, ax_gt, hs, if_pos (by omega), ep, ax_w64 (by omega) (by omega), ax_let, ax_w32 (by omega) (by omega), ax_let]
        exact ih (k + 1) (by omega) (by omega)
    have e44 : am_Ex d 210 44 [(2, 444), am_N, am_N, (0, i), (1, l), am_N, am_N, am_N, am_N, am_N, am_N] [] M = some (trR z n i (l, g), M) := by
      unfold trR
      rw [aq_210_44]
      by_cases hi : i < 0
      · rw [if_pos hi, if_neg (by omega)]
        exact e67 (n - 1).toNat 1 (by omega) (by omega)
      · rw [if_neg hi, show am_ob 444 5 = true from rfl, ax_gt, hs, if_pos i1, if_pos (by omega), kr_444_3 hK, ax_a_446, ax_gi (by omega) (by omega), hb i (by omega) i1, if_pos (by omega)]
    show ax_ok (am_Ex d 210 9 [(2, 444), (0, m), am_N, (0, i), (1, l), am_N, (0, 0), (0, o), am_N, am_N, am_N] [] M) (fun r M' => r = trR z n i (l, g) ∧ _)
    rw [aq_210_9, if_pos rfl, e44, ite_self]
    exact ax_ok_some ⟨rfl, f⟩
  | succ j ih =>
    intro o a M h o0 ha ha2 hb hK hs f hv
    obtain ⟨l, g⟩ := a
    have l1 : l ≤ 5000000000000 := ha2
    have hb : 0 ≤ l → ∀ k, 0 ≤ k → k < n → am_rd M 446 k = ov z n g k := hb
    have ho := hv (by omega)
    obtain ⟨hw, c0, c1⟩ := co_b (W := W) (H := H) T0 T8 z0 z1 hn n5 n1 m0 m6 hW hH o0 (by omega : o < (fct n.toNat : Int))
    have gB : cg_B M := by
      unfold cg_B
      rw [f 2 5 (by omega) (by omega) (by omega), f 2 6 (by omega) (by omega) (by omega), f 2 7 (by omega) (by omega) (by omega), f 2 8 (by omega) (by omega) (by omega), f 2 11 (by omega) (by omega) (by omega)]
      exact b
    have rr : ∀ k, 0 ≤ k → k < n → 0 ≤ ov z n o k ∧ ov z n o k < T := fun k k0 k1 => ov_r T0 T8 z0 z1 hn (by omega) o0 (by omega) k0 k1
    have e175 : am_Call d 175 [(2, 444), (0, m)] M = some (coF W H z n m o, M) := c_175 (d := d) hK hs n1 n5 ho hw (fun k k0 k1 => by
      have r := rr k k0 k1
      rw [c_114 hK h88 (CH_same C fun c i h1 h2 => f c i (by omega) (by omega) (by omega)) m0 m6 r.1 (by omega)]
      show some (H (8 * m + ov z n o k), M) = some (100 - (100 - H (8 * m + ov z n o k)), M)
      rw [show 100 - (100 - H (8 * m + ov z n o k)) = H (8 * m + ov z n o k) by omega]) (fun k k0 k1 => by
      have r := rr k k0 k1
      rw [c_110 hK gB r.1 (by rw [f 2 5 (by omega) (by omega) (by omega), hT]; exact r.2), f 3 _ (by omega) (by omega) (by omega), gW _ r.1 (by omega)])
    have e38 : ∀ (a' : Int × Int) (M1 : am_M), 0 ≤ a'.1 → a'.1 ≤ 5000000000000 → (∀ k, 0 ≤ k → k < n → am_rd M1 446 k = ov z n a'.2 k) → ax_K M1 → (∀ x y, x ≠ 446 → am_rd M1 x y = am_rd M x y) → ax_ok (am_Ex d 210 38 [(2, 444), (0, m), am_N, (0, i), (1, a'.1), am_N, am_N, (0, o), am_N, am_N, am_N] [] M1) (fun r M' => r = trR z n i (ax_fo (trF (coF W H z n m)) j (o + 1) a') ∧ ∀ x y, x ≠ 445 → x ≠ 446 → ¬ (x = 444 ∧ y = 4) → am_rd M' x y = am_rd M0 x y) := fun a' M1 h0 h1 hb1 K1 f1 => by
      have s1 : am_rd M1 444 4 = n := (f1 444 4 (by omega)).trans hs
      obtain ⟨r2, M2, e2, q2, f2⟩ := c_125p (d := d) K1 z0 (by omega) hn n1 (by omega) o0 (by omega) s1 (fun k k0 k1 => (f1 445 k (by omega)).trans (ho k k0 k1))
      have K2 := ax_Kp e2 K1 rfl
      rw [aq_210_38, show am_ob 444 5 = true from rfl, ax_gt, e2, Option.bind_some]
      dsimp only []
      rw [ax_w32 (by omega) (by omega), ax_let]
      have g2 : ∀ x y, x ≠ 445 → x ≠ 446 → ¬ (x = 444 ∧ y = 4) → am_rd M2 x y = am_rd M0 x y := fun x y h1 h2 h3 => (f2 x y h1).trans ((f1 x y h2).trans (f x y h1 h2 h3))
      have hb2 : ∀ k, 0 ≤ k → k < n → am_rd M2 446 k = ov z n a'.2 k := fun k k0 k1 => (f2 446 k (by omega)).trans (hb1 k k0 k1)
      have s2 : am_rd M2 444 4 = n := (f2 444 4 (by omega)).trans s1
      by_cases hl : o + 1 = (fct n.toNat : Int)
      · rw [if_pos hl] at q2
        have hj : j = 0 := by omega
        have := ih (o + 1) a' M2 (by omega) (by omega) (fun _ => h0) h1 (fun _ => hb2) K2 s2 g2 (fun h => by omega)
        rw [if_pos hj] at this
        rw [q2]
        exact this
      · rw [if_neg hl] at q2
        have hj : ¬ j = 0 := by omega
        have := ih (o + 1) a' M2 (by omega) (by omega) (fun _ => h0) h1 (fun _ => hb2) K2 s2 g2 (fun _ => q2.2)
        rw [if_neg hj] at this
        rw [q2.1]
        exact this
    show ax_ok (am_Ex d 210 9 [(2, 444), (0, m), am_N, (0, i), (1, l), am_N, (0, if j + 1 = 0 then 0 else 1), (0, o), am_N, am_N, am_N] [] M) (fun r M' => r = trR z n i (ax_fo (trF (coF W H z n m)) j (o + 1) (trF (coF W H z n m) o (l, g))) ∧ ∀ x y, x ≠ 445 → x ≠ 446 → ¬ (x = 444 ∧ y = 4) → am_rd M' x y = am_rd M0 x y)
    rw [aq_210_9, if_pos (by omega), if_neg (show ¬ (if j + 1 = 0 then (0 : Int) else 1) = 0 by rw [if_neg (by omega)]; decide), show am_ob 444 5 = true from rfl, ax_gt, e175, Option.bind_some]
    dsimp only []
    have e27 : (l < 0 ∨ coF W H z n m o < l) → ax_ok (am_Ex d 210 27 [(2, 444), (0, m), am_N, (0, i), am_N, am_N, am_N, (0, o), (1, coF W H z n m o), am_N, am_N] [] M) (fun r M' => r = trR z n i (ax_fo (trF (coF W H z n m)) j (o + 1) (trF (coF W H z n m) o (l, g))) ∧ ∀ x y, x ≠ 445 → x ≠ 446 → ¬ (x = 444 ∧ y = 4) → am_rd M' x y = am_rd M0 x y) := fun hc => by
      have et : trF (coF W H z n m) o (l, g) = (coF W H z n m o, o) := if_pos hc
      rw [et, aq_210_27, show am_ob 444 5 = true from rfl, ax_gt, kr_444_2 hK, kr_444_3 hK, ax_gtb (by rfl), ax_let]
      exact e38 (coF W H z n m o, o) _ c0 c1 (fun k k0 k1 => by
        rw [ax_rc, if_pos (by omega), show (0 : Int) + (k - 0) = k by omega]
        exact ho k k0 k1) (ax_Kc hK rfl) (fun x y hx => by rw [ax_rc, if_neg (by omega)])
    by_cases h1 : l < 0
    · rw [if_pos (by rw [ax_cl]; exact h1)]
      exact e27 (Or.inl h1)
    · rw [if_neg (by rw [ax_cl]; exact h1)]
      by_cases h2 : coF W H z n m o < l
      · rw [if_pos (by rw [ax_cl]; exact h2)]
        exact e27 (Or.inr h2)
      · rw [if_neg (by rw [ax_cl]; exact h2)]
        have et : trF (coF W H z n m) o (l, g) = (l, g) := if_neg fun q => q.elim h1 h2
        rw [et]
        exact e38 (l, g) M (by show 0 ≤ l; omega) l1 (hb (by omega)) hK fun _ _ _ => rfl
theorem m_202s {M0 : am_M} (T0 : 0 ≤ T) (T8 : T ≤ 8) (z0 : 0 ≤ z) (z1 : z < ((2 ^ T.toNat : Nat) : Int)) (hn : ax_cn z = n) (n1 : 1 ≤ n) (n5 : n ≤ 5) (m0 : 0 ≤ m) (m6 : m < 6) (hW : ∀ t, 0 ≤ t → t < 8 → 0 ≤ W t ∧ W t ≤ 99) (hH : ∀ j, 0 ≤ j → j < 48 → 0 ≤ H j ∧ H j ≤ 99) (gW : ∀ t, 0 ≤ t → t < 8 → am_rd M0 448 (10 + t) = W t) (gH : ∀ j, 0 ≤ j → j < 48 → am_rd M0 448 (60 + j) = H j) (i0 : -2 ≤ i) (i1 : i < n) : ∀ (j : Nat) (o : Int) (a : Int × Int) (M : am_M), o + j = (fct n.toNat : Int) → 0 ≤ o → (1 ≤ o → 0 ≤ a.1) → a.1 ≤ 5000000000000 → (0 ≤ a.1 → ∀ k, 0 ≤ k → k < n → am_rd M 482 k = ov z n a.2 k) → ax_K M → (∀ x y, x < 480 → am_rd M x y = am_rd M0 x y) → (∀ j, 0 ≤ j → j < n → am_rd M 480 j = asA z j) → ax_ok (am_Ex d 202 34 [(2, 447), (0, m), am_N, (0, i), (0, n), (1, a.1), am_N, (0, o), am_N, am_N] [] M) (fun r M' => r = trR z n i (ax_fo (trF (coF W H z n m)) j o a) ∧ ∀ x y, x < 480 → am_rd M' x y = am_rd M0 x y) := by
  have p8 := pw8 T0 T8
  have fr := fct_r (n := n.toNat) (by omega)
  intro j
  induction j with
  | zero =>
    intro o a M h o0 ha ha2 hb hK f hA
    obtain ⟨l, g⟩ := a
    have l0 : 0 ≤ l := ha (by omega)
    have l1 : l ≤ 5000000000000 := ha2
    have hb : ∀ k, 0 ≤ k → k < n → am_rd M 482 k = ov z n g k := hb l0
    have e77 : i < 0 → ∀ (e : Nat) (k : Int), k + e = n → 1 ≤ k → am_Ex d 202 77 [am_N, am_N, am_N, (0, i), (0, n), (1, l), am_N, (1, hP (k - 1).toNat), am_N, (0, k)] [] M = some (if i = -2 then am_ldiv l (gI l (hP (n - 1).toNat)) else am_ldiv (hP (n - 1).toNat) (gI l (hP (n - 1).toNat)), M) := fun hi => by
      intro e
      induction e with
      | zero =>
        intro k hk k1
        have p := hP_b (j := (n - 1).toNat) (by omega)
        have ek : (k - 1).toNat = (n - 1).toNat := by omega
        rw [ek, aq_202_77, if_neg (by omega), m_161 l0 (by omega) (by omega) (by omega), m_161 l0 (by omega) (by omega) (by omega), Option.bind_some, Option.bind_some]
        by_cases h2 : i = -2
        · rw [if_neg (by omega), if_pos rfl, if_pos h2]
        · rw [if_pos (by omega), if_neg (by decide), if_neg h2]
      | succ e ih =>
        intro k hk k1
        have p := hP_b (j := (k + 1 - 1).toNat) (by omega)
        have ep : hP (k - 1).toNat * 100 = hP (k + 1 - 1).toNat := by rw [show (k + 1 - 1).toNat = (k - 1).toNat + 1 by omega]; rfl
        rw [aq_202_77, if_pos (by omega), ep, ax_w64 (by omega) (by omega), ax_let, ax_w32 (by omega) (by omega), ax_let]
        exact ih (k + 1) (by omega) (by omega)
    show ax_ok (am_Ex d 202 34 [(2, 447), (0, m), am_N, (0, i), (0, n), (1, l), am_N, (0, o), am_N, am_N] [] M) (fun r M' => r = trR z n i (l, g) ∧ _)
    rw [aq_202_34, m_95 (by omega) (by omega), Option.bind_some]
    dsimp only []
    rw [if_neg (by omega)]
    unfold trR
    by_cases hi : i < 0
    · have e := e77 hi (n - 1).toNat 1 (by omega) (by omega)
      have e' : am_Ex d 202 77 [am_N, am_N, am_N, (0, i), (0, n), (1, l), am_N, (1, 1), am_N, (0, 1)] [] M = _ := e
      rw [if_pos hi, if_neg (by omega), e']
      exact ax_ok_some ⟨rfl, f⟩
    · rw [if_neg hi, show am_ob 447 11 = true from rfl, ax_gt, kr_447_52 hK, ax_a_482, ax_gi (by omega) (by omega), hb i (by omega) i1, if_pos (by omega)]
      exact ax_ok_some ⟨rfl, f⟩
  | succ j ih =>
    intro o a M h o0 ha ha2 hb hK f hA
    obtain ⟨l, g⟩ := a
    have l1 : l ≤ 5000000000000 := ha2
    have hb : 0 ≤ l → ∀ k, 0 ≤ k → k < n → am_rd M 482 k = ov z n g k := hb
    obtain ⟨hw, c0, c1⟩ := co_b (W := W) (H := H) T0 T8 z0 z1 hn n5 n1 m0 m6 hW hH o0 (by omega : o < (fct n.toNat : Int))
    have rr : ∀ k, 0 ≤ k → k < n → 0 ≤ ov z n o k ∧ ov z n o k < T := fun k k0 k1 => ov_r T0 T8 z0 z1 hn (by omega) o0 (by omega) k0 k1
    obtain ⟨r1, M1, e1, q1, f1⟩ := m_163 (d := d) (p := o) hK (by omega) (by omega : n ≤ 6) o0 (by omega) hA
    have K1 := ax_Kp e1 hK rfl
    have g1 : ∀ x y, x < 480 → am_rd M1 x y = am_rd M0 x y := fun x y hx => (f1 x y (by omega)).trans (f x y hx)
    have hA1 : ∀ j, 0 ≤ j → j < n → am_rd M1 480 j = asA z j := fun j j0 j1 => (f1 480 j (by omega)).trans (hA j j0 j1)
    have e97 : am_Call d 97 [(2, 447), (0, m), (0, n)] M1 = some (coF W H z n m o, M1) := m_97 (d := d) (v := ov z n o) K1 n1 n5 m0 m6 q1 (fun k k0 k1 => by have := rr k k0 k1; omega) hw (fun k k0 k1 => by
      have r := rr k k0 k1
      exact (g1 448 _ (by omega)).trans (gW _ r.1 (by omega))) (fun k k0 k1 => by
      have r := rr k k0 k1
      show am_rd M1 448 (60 + 8 * m + ov z n o k) = 100 - (100 - H (8 * m + ov z n o k))
      rw [show 60 + 8 * m + ov z n o k = 60 + (8 * m + ov z n o k) by omega, g1 448 _ (by omega), gH _ (by omega) (by omega)]
      omega)
    have e62 : ∀ (a' : Int × Int) (M2 : am_M), 0 ≤ a'.1 → a'.1 ≤ 5000000000000 → (∀ k, 0 ≤ k → k < n → am_rd M2 482 k = ov z n a'.2 k) → ax_K M2 → (∀ x y, x ≠ 482 → am_rd M2 x y = am_rd M1 x y) → ax_ok (am_Ex d 202 62 [(2, 447), (0, m), am_N, (0, i), (0, n), (1, a'.1), am_N, (0, o), am_N, am_N] [] M2) (fun r M' => r = trR z n i (ax_fo (trF (coF W H z n m)) j (o + 1) a') ∧ ∀ x y, x < 480 → am_rd M' x y = am_rd M0 x y) := fun a' M2 h0 h1 hb2 K2 f2 => by
      rw [aq_202_62, ax_w32 (by omega) (by omega), ax_let]
      exact ih (o + 1) a' M2 (by omega) (by omega) (fun _ => h0) h1 (fun _ => hb2) K2 (fun x y hx => (f2 x y (by omega)).trans (g1 x y hx)) (fun j j0 j1 => (f2 480 j (by omega)).trans (hA1 j j0 j1))
    show ax_ok (am_Ex d 202 34 [(2, 447), (0, m), am_N, (0, i), (0, n), (1, l), am_N, (0, o), am_N, am_N] [] M) (fun r M' => r = trR z n i (ax_fo (trF (coF W H z n m)) j (o + 1) (trF (coF W H z n m) o (l, g))) ∧ ∀ x y, x < 480 → am_rd M' x y = am_rd M0 x y)
    rw [aq_202_34, m_95 (by omega) (by omega), Option.bind_some]
    dsimp only []
    rw [if_pos (by omega), show am_ob 447 11 = true from rfl, ax_gt, e1, Option.bind_some]
    dsimp only []
    rw [e97, Option.bind_some]
    dsimp only []
    have e56 : (l < 0 ∨ coF W H z n m o < l) → ax_ok (am_Ex d 202 56 [(2, 447), (0, m), am_N, (0, i), (0, n), am_N, am_N, (0, o), (1, coF W H z n m o), am_N] [] M1) (fun r M' => r = trR z n i (ax_fo (trF (coF W H z n m)) j (o + 1) (trF (coF W H z n m) o (l, g))) ∧ ∀ x y, x < 480 → am_rd M' x y = am_rd M0 x y) := fun hc => by
      have et : trF (coF W H z n m) o (l, g) = (coF W H z n m o, o) := if_pos hc
      obtain ⟨r2, M2, e2, q2, f2⟩ := m_96 (d := d) K1 (by omega : 0 ≤ n) (by omega : n ≤ 6)
      rw [et, aq_202_56, show am_ob 447 11 = true from rfl, ax_gt, e2, Option.bind_some]
      exact e62 (coF W H z n m o, o) M2 c0 c1 (fun k k0 k1 => (q2 k k0 k1).trans (q1 k k0 k1)) (ax_Kp e2 K1 rfl) f2
    by_cases h1 : l < 0
    · rw [if_pos (by rw [ax_cl]; exact h1)]
      exact e56 (Or.inl h1)
    · rw [if_neg (by rw [ax_cl]; exact h1)]
      by_cases h2 : coF W H z n m o < l
      · rw [if_pos (by rw [ax_cl]; exact h2)]
        exact e56 (Or.inr h2)
      · rw [if_neg (by rw [ax_cl]; exact h2)]
        have et : trF (coF W H z n m) o (l, g) = (l, g) := if_neg fun q => q.elim h1 h2
        rw [et]
        exact e62 (l, g) M1 (by show 0 ≤ l; omega) l1 (fun k k0 k1 => (f1 482 k (by omega)).trans (hb (by omega) k k0 k1)) K1 fun _ _ _ => rfl
end
