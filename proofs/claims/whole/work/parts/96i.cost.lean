/-! a trial's mean -/
theorem mulb {x y X Y : Int} (x0 : 0 ≤ x) (x1 : x ≤ X) (y0 : 0 ≤ y) (y1 : y ≤ Y) : 0 ≤ x * y ∧ x * y ≤ X * Y := by
  have h1 := Int.mul_nonneg x0 y0
  have h2 := Int.mul_le_mul_of_nonneg_left y1 x0
  have h3 := Int.mul_le_mul_of_nonneg_right x1 (show 0 ≤ Y by omega)
  exact ⟨h1, by omega⟩
theorem ax_ldivn {x y : Int} (h1 : 0 ≤ x) (h2 : x < 4611686018427387904) (h3 : 0 < y) (h4 : y < 4611686018427387904) : am_ldiv x y = x / y := by
  have ex : (Int64.ofInt x).toInt = x := ax_w64 (by omega) (by omega)
  have ey : (Int64.ofInt y).toInt = y := ax_w64 (by omega) (by omega)
  have e0 : Int.tdiv x y = x / y := Int.tdiv_eq_ediv_of_nonneg h1
  have e1 : 0 ≤ x / y := Int.ediv_nonneg h1 (by omega)
  have e2 : x / y ≤ x := Int.ediv_le_self y h1
  unfold am_ldiv
  rw [Int64.toInt_div, ex, ey, e0]
  exact Int.bmod_eq_of_le (by omega) (by omega)
def hP : Nat → Int
  | 0 => 1
  | j + 1 => hP j * 100
theorem hP_b {j : Nat} (h : j ≤ 5) : 1 ≤ hP j ∧ hP j ≤ 10000000000 := by
  have hj : j = 0 ∨ j = 1 ∨ j = 2 ∨ j = 3 ∨ j = 4 ∨ j = 5 := by omega
  rcases hj with rfl | rfl | rfl | rfl | rfl | rfl <;> decide
theorem hP_c {j : Nat} (h : j ≤ 4) : 1 ≤ hP j ∧ hP j ≤ 100000000 := by
  have hj : j = 0 ∨ j = 1 ∨ j = 2 ∨ j = 3 ∨ j = 4 := by omega
  rcases hj with rfl | rfl | rfl | rfl | rfl <;> decide
/-- the mean of the last j of n -/
def cF (n : Int) (w ms : Int → Int) : Nat → Int
  | 0 => 0
  | j + 1 => w (n - 1 - j) * hP j + ms (n - 1 - j) * cF n w ms j
def WM (n : Int) (w ms : Int → Int) : Prop := ∀ k, 0 ≤ k → k < n → (0 ≤ w k ∧ w k ≤ 99) ∧ (0 ≤ ms k ∧ ms k ≤ 100)
theorem cF_b {n : Int} {w ms : Int → Int} (h : WM n w ms) : ∀ j : Nat, (j : Int) ≤ n → j ≤ 5 → 0 ≤ cF n w ms j ∧ cF n w ms j ≤ 100 * ((j : Int) * hP j) := by
  intro j
  induction j with
  | zero => intro _ _; exact ⟨Int.le_refl _, by show (0 : Int) ≤ 100 * (0 * 1); decide⟩
  | succ j ih =>
    intro h1 h2
    obtain ⟨c0, c1⟩ := ih (by omega) (by omega)
    obtain ⟨⟨w0, w1⟩, m0, m1⟩ := h (n - 1 - j) (by omega) (by omega)
    have p := hP_b (j := j) (by omega)
    have a1 := mulb w0 w1 (show 0 ≤ hP j by omega) (Int.le_refl (hP j))
    have a2 := mulb m0 m1 c0 (Int.le_refl (cF n w ms j))
    have e : ((j + 1 : Nat) : Int) * hP (j + 1) = 100 * ((j : Int) * hP j) + 100 * hP j := by
      show ((j + 1 : Nat) : Int) * (hP j * 100) = _
      rw [Int.natCast_add, ← Int.mul_assoc, Int.add_mul]
      show ((j : Int) * hP j + 1 * hP j) * 100 = _
      omega
    rw [e]
    show 0 ≤ w (n - 1 - j) * hP j + ms (n - 1 - j) * cF n w ms j ∧ w (n - 1 - j) * hP j + ms (n - 1 - j) * cF n w ms j ≤ _
    omega
theorem cF_B {n : Int} {w ms : Int → Int} (h : WM n w ms) {j : Nat} (h1 : (j : Int) ≤ n) (h2 : j ≤ 5) : 0 ≤ cF n w ms j ∧ cF n w ms j ≤ 5000000000000 := by
  have a := cF_b h j h1 h2
  have p := hP_b h2
  have b := mulb (show 0 ≤ (j : Int) by omega) (show (j : Int) ≤ 5 by omega) (show 0 ≤ hP j by omega) p.2
  omega
theorem cF_congr {n : Int} {w ms w' ms' : Int → Int} : ∀ j : Nat, (j : Int) ≤ n → (∀ k, 0 ≤ k → k < n → w k = w' k ∧ ms k = ms' k) → cF n w ms j = cF n w' ms' j := by
  intro j
  induction j with
  | zero => intro _ _; rfl
  | succ j ih =>
    intro h1 h
    show w (n - 1 - j) * hP j + ms (n - 1 - j) * cF n w ms j = w' (n - 1 - j) * hP j + ms' (n - 1 - j) * cF n w' ms' j
    rw [(h _ (by omega) (by omega)).1, (h _ (by omega) (by omega)).2, ih (by omega) h]
section
variable {M : am_M} {d : Nat} {n m T : Int} {w ms v : Int → Int}
theorem c_175 (hK : ax_K M) (hs : am_rd M 444 4 = n) (n1 : 1 ≤ n) (n5 : n ≤ 5) (ho : OV M v n) (hw : WM n w ms) (e114 : ∀ k, 0 ≤ k → k < n → am_Call d 114 [(2, 8), (0, m), (0, v k)] M = some (100 - ms k, M)) (e110 : ∀ k, 0 ≤ k → k < n → am_Call d 110 [(2, 2), (0, v k)] M = some (w k, M)) : am_Call d 175 [(2, 444), (0, m)] M = some (cF n w ms n.toNat, M) := by
  rw [aq_175, show am_ob 444 5 = true from rfl, ax_gt, hs, show min n 6 = n by omega, ax_w32 (by omega) (by omega), ax_let]
  have key : ∀ (e : Nat) (j : Nat), (e : Int) + j = n → am_Ex d 175 12 [(2, 444), (0, m), (1, cF n w ms j), am_N, (1, hP j), am_N, (0, (e : Int) - 1), am_N, am_N] [] M = some (cF n w ms n.toNat, M) := by
    intro e
    induction e with
    | zero =>
      intro j hj
      rw [aq_175_12, if_pos (by omega), show j = n.toNat by omega]
    | succ e ih =>
      intro j hj
      have c := cF_B hw (j := j) (by omega) (by omega)
      have c' := cF_B hw (j := j + 1) (by omega) (by omega)
      have p := hP_c (j := j) (by omega)
      obtain ⟨⟨w0, w1⟩, m0, m1⟩ := hw (e : Int) (by omega) (by omega)
      have a1 := mulb w0 w1 (show 0 ≤ hP j by omega) p.2
      have a2 := mulb m0 m1 c.1 c.2
      have ek : ((e + 1 : Nat) : Int) - 1 = e := by omega
      have es : cF n w ms (j + 1) = w (e : Int) * hP j + ms (e : Int) * cF n w ms j := by
        show w (n - 1 - j) * hP j + ms (n - 1 - j) * cF n w ms j = _
        rw [show n - 1 - (j : Int) = e by omega]
      have ep : hP (j + 1) = hP j * 100 := rfl
      rw [ek, aq_175_12, if_neg (by omega), show am_ob 444 5 = true from rfl, ax_gt, kr_444_2 hK, kr_444_1 hK, ax_a_445, ax_gi (by omega) (by omega), show am_ob 8 3 = true from rfl, ax_gt, ho e (by omega) (by omega), e114 e (by omega) (by omega), Option.bind_some]
      dsimp only []
      rw [show (100 : Int) - (100 - ms (e : Int)) = ms (e : Int) by omega, ax_w32 (x := ms (e : Int)) (by omega) (by omega), ax_let, kr_444_2 hK, kr_444_0 hK, ax_a_445, ax_gi (by omega) (by omega), show am_ob 2 2 = true from rfl, ax_gt, ho e (by omega) (by omega), e110 e (by omega) (by omega), Option.bind_some]
      dsimp only []
      rw [ax_w64 (x := w (e : Int) * hP j) (by omega) (by omega), ax_w64 (x := ms (e : Int) * cF n w ms j) (by omega) (by omega), ← es, ax_w64 (x := cF n w ms (j + 1)) (by omega) (by omega), ax_let, ← ep, ax_w64 (x := hP (j + 1)) (by omega) (by omega), ax_let, ax_w32 (by omega) (by omega), ax_let, show (e : Int) + -1 = (e : Int) - 1 by omega]
      exact ih (j + 1) (by omega)
  have k0 := key n.toNat 0 (by omega)
  rw [show ((n.toNat : Nat) : Int) - 1 = n - 1 by omega] at k0
  exact k0
theorem m_97 (hK : ax_K M) (n1 : 1 ≤ n) (n5 : n ≤ 5) (m0 : 0 ≤ m) (m6 : m < 6) (ho : ∀ j, 0 ≤ j → j < n → am_rd M 481 j = v j) (hv : ∀ k, 0 ≤ k → k < n → 0 ≤ v k ∧ v k < 8) (hw : WM n w ms) (g1 : ∀ k, 0 ≤ k → k < n → am_rd M 448 (10 + v k) = w k) (g2 : ∀ k, 0 ≤ k → k < n → am_rd M 448 (60 + 8 * m + v k) = 100 - ms k) : am_Call d 97 [(2, 447), (0, m), (0, n)] M = some (cF n w ms n.toNat, M) := by
  have tot := cF_B hw (j := n.toNat) (by omega) (by omega)
  have second : ∀ (e : Nat) (k s l : Int), k + e = n → 0 ≤ k → 0 ≤ s → 0 ≤ l → l ≤ hP k.toNat → s + l * cF n w ms e = cF n w ms n.toNat → am_Ex d 97 21 [(2, 447), (0, m), (0, n), (1, s), am_N, (1, l), am_N, (1, if e = 0 then 0 else hP (e - 1)), am_N, (0, k)] [] M = some (cF n w ms n.toNat, M) := by
    intro e
    induction e with
    | zero =>
      intro k s l hk k0 s0 l0 l1 hs
      have hz : cF n w ms 0 = 0 := rfl
      rw [hz, Int.mul_zero, Int.add_zero] at hs
      rw [aq_97_21, if_neg (by omega), hs]
    | succ e ih =>
      intro k s l hk k0 s0 l0 l1 hs
      have c := cF_B hw (j := e) (by omega) (by omega)
      have pk := hP_c (j := k.toNat) (by omega)
      have pe := hP_c (j := e) (by omega)
      obtain ⟨⟨w0, w1⟩, ms0, ms1⟩ := hw k k0 (by omega)
      have vk := hv k k0 (by omega)
      have hu : (if e + 1 = 0 then (0 : Int) else hP (e + 1 - 1)) = hP e := if_neg (by omega)
      have a1 := mulb l0 (show l ≤ 100000000 by omega) (show 0 ≤ hP e by omega) pe.2
      have a2 := mulb a1.1 a1.2 w0 w1
      have a3 := mulb l0 l1 ms0 ms1
      have ec : cF n w ms (e + 1) = w k * hP e + ms k * cF n w ms e := by
        show w (n - 1 - e) * hP e + ms (n - 1 - e) * cF n w ms e = _
        rw [show n - 1 - (e : Int) = k by omega]
      have a4 := mulb a3.1 (Int.le_refl _) c.1 (Int.le_refl _)
      have hs2 : s + l * hP e * w k + l * ms k * cF n w ms e = cF n w ms n.toNat := by
        rw [ec, Int.mul_add] at hs
        have e1 : l * (w k * hP e) = l * hP e * w k := by rw [Int.mul_comm (w k), ← Int.mul_assoc]
        have e2 : l * (ms k * cF n w ms e) = l * ms k * cF n w ms e := (Int.mul_assoc _ _ _).symm
        omega
      have hp : hP (k + 1).toNat = hP k.toNat * 100 := by rw [show (k + 1).toNat = k.toNat + 1 by omega]; rfl
      have hd : hP e / 100 = if e = 0 then 0 else hP (e - 1) := by
        cases e with
        | zero => rfl
        | succ e => show hP e * 100 / 100 = if e + 1 = 0 then 0 else hP (e + 1 - 1); rw [if_neg (by omega), Int.mul_ediv_cancel _ (by decide)]; rfl
      rw [hu, aq_97_21, if_pos (by omega), show am_ob 447 11 = true from rfl, ax_gt, kr_447_51 hK, kr_447_0 hK, ax_a_481, ax_gi (by omega) (by omega), ho k k0 (by omega), ax_w32 (x := 10 + v k) (by omega) (by omega), ax_a_448, ax_gi (by omega) (by omega), g1 k k0 (by omega), ax_w64 (x := l * hP e) (by omega) (by omega), ax_w64 (x := l * hP e * w k) (by omega) (by omega), ax_w64 (x := s + l * hP e * w k) (by omega) (by omega), ax_let, ax_w32 (x := 8 * m) (by omega) (by omega), ax_w32 (x := 60 + 8 * m) (by omega) (by omega), ax_w32 (x := 60 + 8 * m + v k) (by omega) (by omega), ax_a_448, ax_gi (by omega) (by omega), g2 k k0 (by omega), show (100 : Int) - (100 - ms k) = ms k by omega, ax_w32 (x := ms k) (by omega) (by omega), ax_w64 (x := l * ms k) (by omega) (by omega), ax_let, if_neg (by decide), ax_ldivn (by omega) (by omega) (by decide) (by decide), ax_let, ax_w32 (x := k + 1) (by omega) (by omega), ax_let, hd]
      exact ih (k + 1) _ _ (by omega) (by omega) (by omega) a3.1 (by rw [hp]; exact a3.2) hs2
  have first : ∀ (e : Nat) (k : Int), k + e = n → 1 ≤ k → am_Ex d 97 9 [(2, 447), (0, m), (0, n), (1, 0), am_N, (1, 1), am_N, (1, hP (k - 1).toNat), am_N, (0, k)] [] M = some (cF n w ms n.toNat, M) := by
    intro e
    induction e with
    | zero =>
      intro k hk k1
      rw [aq_97_9, if_neg (by omega)]
      have h := second n.toNat 0 0 1 (by omega) (by omega) (by omega) (by omega) (by decide) (by rw [Int.one_mul, Int.zero_add])
      rw [if_neg (by omega), show n.toNat - 1 = (k - 1).toNat by omega] at h
      exact h
    | succ e ih =>
      intro k hk k1
      have p := hP_b (j := (k + 1 - 1).toNat) (by omega)
      have ep : hP (k - 1).toNat * 100 = hP (k + 1 - 1).toNat := by rw [show (k + 1 - 1).toNat = (k - 1).toNat + 1 by omega]; rfl
      rw [aq_97_9, if_pos (by omega), ep, ax_w64 (by omega) (by omega), ax_let, ax_w32 (by omega) (by omega), ax_let]
      exact ih (k + 1) (by omega) (by omega)
  rw [aq_97]
  exact first (n - 1).toNat 1 (by omega) (by omega)
end
