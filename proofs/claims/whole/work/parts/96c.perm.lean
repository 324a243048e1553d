/-! orders: the model's by a number, the developers' next one -/
def fct : Nat → Nat
  | 0 => 1
  | n + 1 => (n + 1) * fct n
def inn : Nat → Nat → Nat → Nat → Nat
  | 0, _, _, _ => 99
  | f + 1, tk, sk, i => if tk.testBit i then inn f tk sk (i + 1) else if sk = 0 then i else inn f tk (sk - 1) (i + 1)
def layo : Nat → Nat → Nat → List Nat
  | 0, _, _ => []
  | r + 1, left, tk => inn 8 tk (left / fct r) 0 :: layo r (left % fct r) (tk ||| 2 ^ inn 8 tk (left / fct r) 0)
def ixl (n p : Nat) : List Nat := layo n p 0
def fnl (l : List Nat) : Int → Int := fun j => ((l.getD j.toNat 0 : Nat) : Int)
def rsF (v : Int → Int) : Nat → Int
  | 0 => -1
  | e + 1 => if v (e : Int) ≤ v ((e : Int) + 1) then (e : Int) else rsF v e
def nxF (v : Int → Int) (r : Int) : Nat → Int
  | 0 => 0
  | e + 1 => if ((e : Int) + 1) ≤ r + 1 then (e : Int) + 1 else if v ((e : Int) + 1) < v r then nxF v r e else (e : Int) + 1
def swF (v : Int → Int) (a b : Int) : Int → Int := fun j => if j = b then v a else if j = a then v b else v j
def rvF : Nat → (Int → Int) → Int → Int → (Int → Int)
  | 0, v, _, _ => v
  | f + 1, v, a, b => if a < b then rvF f (swF v a b) (a + 1) (b - 1) else v
def npF (n : Nat) (v : Int → Int) : Option (Int → Int) := if rsF v (n - 1) < 0 then none else some (rvF 6 (swF v (rsF v (n - 1)) (nxF v (rsF v (n - 1)) (n - 1))) (rsF v (n - 1) + 1) ((n : Int) - 1))
def okp (n p : Nat) : Bool := (ixl n p).length == n && (ixl n p).all (fun i => Nat.blt i n) && (match npF n (fnl (ixl n p)) with
  | none => p + 1 == fct n
  | some w => Nat.blt (p + 1) (fct n) && (List.range n).all fun j => w (j : Int) == fnl (ixl n (p + 1)) (j : Int))
theorem okpB : ((List.range 7).all fun n => (List.range (fct n)).all (okp n)) = true := by decide +kernel
theorem okp_all {n p : Nat} (hn : n ≤ 6) (hp : p < fct n) : okp n p = true := List.all_eq_true.mp (List.all_eq_true.mp okpB n (List.mem_range.mpr (by omega))) p (List.mem_range.mpr hp)
theorem ix_0B : ((List.range 7).all fun n => (List.range n).all fun j => (ixl n 0).getD j 0 == j) = true := by decide +kernel
theorem ix_0 {n : Nat} {j : Int} (hn : n ≤ 6) (j0 : 0 ≤ j) (j1 : j < n) : fnl (ixl n 0) j = j := by
  have h := eq_of_beq (List.all_eq_true.mp (List.all_eq_true.mp ix_0B n (List.mem_range.mpr (by omega))) j.toNat (List.mem_range.mpr (by omega)))
  unfold fnl
  rw [h]
  exact Int.toNat_of_nonneg j0
theorem ix_r {n p : Nat} {j : Int} (hn : n ≤ 6) (hp : p < fct n) (j0 : 0 ≤ j) (j1 : j < n) : 0 ≤ fnl (ixl n p) j ∧ fnl (ixl n p) j < n := by
  have h := okp_all hn hp
  unfold okp at h
  obtain ⟨h1, -⟩ := Bool.and_eq_true_iff.mp h
  obtain ⟨h2, h3⟩ := Bool.and_eq_true_iff.mp h1
  have h2 := eq_of_beq h2
  rcases am_getD_mem (ixl n p) j.toNat 0 with hm | hm
  · have h4 := Nat.le_of_ble_eq_true (List.all_eq_true.mp h3 _ hm)
    unfold fnl
    omega
  · unfold fnl
    rw [hm]
    omega
theorem np_last {n p : Nat} (hn : n ≤ 6) (hp : p + 1 = fct n) : npF n (fnl (ixl n p)) = none := by
  have h := okp_all hn (show p < fct n by omega)
  unfold okp at h
  obtain ⟨-, h1⟩ := Bool.and_eq_true_iff.mp h
  split at h1
  · assumption
  · have h2 := Nat.le_of_ble_eq_true (Bool.and_eq_true_iff.mp h1).1
    omega
theorem np_next {n p : Nat} (hn : n ≤ 6) (hp : p + 1 < fct n) : ∃ w, npF n (fnl (ixl n p)) = some w ∧ ∀ j : Int, 0 ≤ j → j < n → w j = fnl (ixl n (p + 1)) j := by
  have h := okp_all hn (show p < fct n by omega)
  unfold okp at h
  obtain ⟨-, h1⟩ := Bool.and_eq_true_iff.mp h
  split at h1
  · have h2 := eq_of_beq h1
    omega
  · rename_i w hw
    refine ⟨w, hw, fun j j0 j1 => ?_⟩
    have h3 := eq_of_beq (List.all_eq_true.mp (Bool.and_eq_true_iff.mp h1).2 j.toNat (List.mem_range.mpr (by omega)))
    rw [Int.toNat_of_nonneg j0] at h3
    exact h3
/-! the same of the turns themselves -/
section
variable {A u v : Int → Int} {n : Nat}
/-- v holds at each place below n the A of what u holds -/
def AU (A u v : Int → Int) (n : Nat) : Prop := ∀ j : Int, 0 ≤ j → j < n → v j = A (u j) ∧ 0 ≤ u j ∧ u j < n
def Mon (A : Int → Int) (n : Nat) : Prop := ∀ a b : Int, 0 ≤ a → a < b → b < n → A a < A b
theorem mon_le (hA : Mon A n) {a b : Int} (a0 : 0 ≤ a) (a1 : a < n) (b0 : 0 ≤ b) (b1 : b < n) : A a ≤ A b ↔ a ≤ b := by
  constructor
  · intro h
    by_cases e : a ≤ b
    · exact e
    · have := hA b a b0 (by omega) a1
      omega
  · intro h
    by_cases e : a = b
    · rw [e]; exact Int.le_refl _
    · have := hA a b a0 (by omega) b1
      omega
theorem mon_lt (hA : Mon A n) {a b : Int} (a0 : 0 ≤ a) (a1 : a < n) (b0 : 0 ≤ b) (b1 : b < n) : A a < A b ↔ a < b := by
  have := mon_le hA b0 b1 a0 a1
  omega
theorem rs_au (hA : Mon A n) (h : AU A u v n) : ∀ e : Nat, e + 1 ≤ n ∨ e = 0 → rsF v e = rsF u e := by
  intro e
  induction e with
  | zero => intro _; rfl
  | succ e ih =>
    intro he
    have h1 := h e (by omega) (by omega)
    have h2 := h (e + 1) (by omega) (by omega)
    show (if v (e : Int) ≤ v ((e : Int) + 1) then (e : Int) else rsF v e) = (if u (e : Int) ≤ u ((e : Int) + 1) then (e : Int) else rsF u e)
    have hl := mon_le hA h1.2.1 h1.2.2 h2.2.1 h2.2.2
    rw [h1.1, h2.1, ih (by omega)]
    by_cases hc : u (e : Int) ≤ u ((e : Int) + 1)
    · rw [if_pos hc, if_pos (hl.mpr hc)]
    · rw [if_neg hc, if_neg (fun q => hc (hl.mp q))]
theorem rs_b : ∀ e : Nat, -1 ≤ rsF u e ∧ rsF u e < e := by
  intro e
  induction e with
  | zero => exact ⟨Int.le_refl _, by show (-1 : Int) < ((0 : Nat) : Int); omega⟩
  | succ e ih =>
    show -1 ≤ (if u (e : Int) ≤ u ((e : Int) + 1) then (e : Int) else rsF u e) ∧ (if u (e : Int) ≤ u ((e : Int) + 1) then (e : Int) else rsF u e) < ((e + 1 : Nat) : Int)
    split <;> omega
theorem nx_au (hA : Mon A n) (h : AU A u v n) {r : Int} (r0 : 0 ≤ r) (r1 : r < n) : ∀ e : Nat, e < n → nxF v r e = nxF u r e := by
  intro e
  induction e with
  | zero => intro _; rfl
  | succ e ih =>
    intro he
    have h1 := h r r0 r1
    have h2 := h (e + 1) (by omega) (by omega)
    show (if ((e : Int) + 1) ≤ r + 1 then (e : Int) + 1 else if v ((e : Int) + 1) < v r then nxF v r e else (e : Int) + 1) = (if ((e : Int) + 1) ≤ r + 1 then (e : Int) + 1 else if u ((e : Int) + 1) < u r then nxF u r e else (e : Int) + 1)
    have hl := mon_lt hA h2.2.1 h2.2.2 h1.2.1 h1.2.2
    rw [h1.1, h2.1, ih (by omega)]
    by_cases hc : u ((e : Int) + 1) < u r
    · rw [if_pos hc, if_pos (hl.mpr hc)]
    · rw [if_neg hc, if_neg (fun q => hc (hl.mp q))]
theorem nx_b {r : Int} (r0 : 0 ≤ r) : ∀ e : Nat, 0 ≤ nxF u r e ∧ nxF u r e ≤ e := by
  intro e
  induction e with
  | zero => exact ⟨Int.le_refl _, Int.le_refl _⟩
  | succ e ih =>
    show 0 ≤ (if ((e : Int) + 1) ≤ r + 1 then (e : Int) + 1 else if u ((e : Int) + 1) < u r then nxF u r e else (e : Int) + 1) ∧ (if ((e : Int) + 1) ≤ r + 1 then (e : Int) + 1 else if u ((e : Int) + 1) < u r then nxF u r e else (e : Int) + 1) ≤ ((e + 1 : Nat) : Int)
    (repeat' split) <;> omega
theorem sw_au (h : AU A u v n) {a b : Int} (a0 : 0 ≤ a) (a1 : a < n) (b0 : 0 ≤ b) (b1 : b < n) : AU A (swF u a b) (swF v a b) n := fun j j0 j1 => by
  unfold swF
  by_cases e1 : j = b
  · rw [if_pos e1, if_pos e1]; exact h a a0 a1
  · rw [if_neg e1, if_neg e1]
    by_cases e2 : j = a
    · rw [if_pos e2, if_pos e2]; exact h b b0 b1
    · rw [if_neg e2, if_neg e2]; exact h j j0 j1
theorem rv_au : ∀ (f : Nat) (u v : Int → Int) (a b : Int), AU A u v n → 0 ≤ a → b < n → AU A (rvF f u a b) (rvF f v a b) n := by
  intro f
  induction f with
  | zero => intro u v a b h _ _; exact h
  | succ f ih =>
    intro u v a b h a0 b1
    show AU A (if a < b then rvF f (swF u a b) (a + 1) (b - 1) else u) (if a < b then rvF f (swF v a b) (a + 1) (b - 1) else v) n
    split
    · exact ih _ _ _ _ (sw_au h a0 (by omega) (by omega) b1) (by omega) (by omega)
    · exact h
theorem np_au (hA : Mon A n) (h : AU A u v n) (n1 : 1 ≤ n) : match npF n u, npF n v with
    | none, none => True
    | some u', some v' => AU A u' v' n
    | _, _ => False := by
  unfold npF
  have e1 := rs_au hA h (n - 1) (by omega)
  have rb := rs_b (u := u) (n - 1)
  rw [e1]
  by_cases hr : rsF u (n - 1) < 0
  · rw [if_pos hr, if_pos hr]; trivial
  · rw [if_neg hr, if_neg hr]
    have e2 := nx_au hA h (r := rsF u (n - 1)) (by omega) (by omega) (n - 1) (by omega)
    have nb := nx_b (u := u) (r := rsF u (n - 1)) (by omega) (n - 1)
    rw [e2]
    exact rv_au 6 _ _ _ _ (sw_au h (by omega) (by omega) nb.1 (by omega)) (by omega) (by omega)
end
