/-! folds over a range -/
def ax_fo {α : Type} (f : Int → α → α) : Nat → Int → α → α
  | 0, _, a => a
  | n + 1, k, a => ax_fo f n (k + 1) (f k a)
theorem ax_fo_congr {α : Type} {f g : Int → α → α} : ∀ (n : Nat) (k : Int) (a : α), (∀ i a, k ≤ i → i < k + n → f i a = g i a) → ax_fo f n k a = ax_fo g n k a := by
  intro n
  induction n with
  | zero => intro k a _; rfl
  | succ n ih =>
    intro k a h
    show ax_fo f n (k + 1) (f k a) = ax_fo g n (k + 1) (g k a)
    rw [h k a (by omega) (by omega)]
    exact ih _ _ fun i a h1 h2 => h i a (by omega) (by omega)
theorem ax_fo_inv {α : Type} {f : Int → α → α} (P : Int → α → Prop) : ∀ (n : Nat) (k : Int) (a : α), (∀ i a, k ≤ i → i < k + n → P i a → P (i + 1) (f i a)) → P k a → P (k + n) (ax_fo f n k a) := by
  intro n
  induction n with
  | zero => intro k a _ h; have : k + ((0 : Nat) : Int) = k := by omega
            rw [this]; exact h
  | succ n ih =>
    intro k a hs h
    have := ih (k + 1) (f k a) (fun i a h1 h2 => hs i a (by omega) (by omega)) (hs k a (by omega) (by omega) h)
    have e : k + ((n + 1 : Nat) : Int) = k + 1 + (n : Int) := by omega
    rw [e]; exact this
/-- two folds side by side -/
theorem ax_fo_rel {α β : Type} {f : Int → α → α} {g : Int → β → β} (P : Int → α → β → Prop) : ∀ (n : Nat) (k : Int) (a : α) (b : β), (∀ i a b, k ≤ i → i < k + n → P i a b → P (i + 1) (f i a) (g i b)) → P k a b → P (k + n) (ax_fo f n k a) (ax_fo g n k b) := by
  intro n
  induction n with
  | zero => intro k a b _ h; have : k + ((0 : Nat) : Int) = k := by omega
            rw [this]; exact h
  | succ n ih =>
    intro k a b hs h
    have := ih (k + 1) (f k a) (g k b) (fun i a b h1 h2 => hs i a b (by omega) (by omega)) (hs k a b (by omega) (by omega) h)
    have e : k + ((n + 1 : Nat) : Int) = k + 1 + (n : Int) := by omega
    rw [e]; exact this
theorem ax_fo_s {α : Type} {f : Int → α → α} {n k : Int} {a : α} (h : k < n) : ax_fo f (n - k).toNat k a = ax_fo f (n - (k + 1)).toNat (k + 1) (f k a) := by
  have e : (n - k).toNat = (n - (k + 1)).toNat + 1 := by omega
  rw [e]; rfl
theorem ax_fo_e {α : Type} {f : Int → α → α} {n k : Int} {a : α} (h : n ≤ k) : ax_fo f (n - k).toNat k a = a := by
  have e : (n - k).toNat = 0 := by omega
  rw [e]; rfl
/-- a loop that counts up, a fold -/
theorem ax_loop {α β : Type} {X : Int → α → β} {f : Int → α → α} {E : α → β} {n : Int} (I : Int → α → Prop) (hs : ∀ k a, I k a → k < n → X k a = X (k + 1) (f k a) ∧ I (k + 1) (f k a)) (he : ∀ a, I n a → X n a = E a) : ∀ (j : Nat) (k : Int) (a : α), k + j = n → I k a → X k a = E (ax_fo f j k a) := by
  intro j
  induction j with
  | zero =>
    intro k a h hi
    have : k = n := by omega
    subst this
    exact he a hi
  | succ j ih =>
    intro k a h hi
    obtain ⟨h1, h2⟩ := hs k a hi (by omega)
    rw [h1]
    exact ih (k + 1) (f k a) (by omega) h2
/-- a loop that counts up, with a memory -/
theorem ax_loopM {σ : Type} {X : Int → σ → am_M → Option (Int × am_M)} {n : Int} {Q : Int → am_M → Prop} (I : Int → σ → am_M → Prop) (hs : ∀ k s m, I k s m → k < n → ∃ s' m', X k s m = X (k + 1) s' m' ∧ I (k + 1) s' m') (he : ∀ s m, I n s m → ax_ok (X n s m) Q) : ∀ (j : Nat) (k : Int) (s : σ) (m : am_M), k + j = n → I k s m → ax_ok (X k s m) Q := by
  intro j
  induction j with
  | zero =>
    intro k s m h hi
    have : k = n := by omega
    subst this
    exact he s m hi
  | succ j ih =>
    intro k s m h hi
    obtain ⟨s', m', h1, h2⟩ := hs k s m hi (by omega)
    rw [h1]
    exact ih (k + 1) s' m' (by omega) h2
/-! bits -/
theorem ax_01 (y : Int) : am_and y 1 = 0 ∨ am_and y 1 = 1 := by
  unfold am_and
  obtain ⟨j, hj, e⟩ := pk_andE (Int32.ofInt y) (m := Int32.ofInt 1) 1 (by decide)
  rw [e]
  have : j = 0 ∨ j = 1 := by omega
  rcases this with rfl | rfl
  · left; decide
  · right; decide
theorem ax_a0 (y : Int) : (am_and y 1 = 0) = ¬ (am_and y 1 = 1) := by
  rcases ax_01 y with h | h <;> rw [h] <;> simp
theorem ax_ab (y : Int) : am_and y 1 = ax_b (am_and y 1 = 1) := by
  rcases ax_01 y with h | h
  · rw [h]; rfl
  · rw [h]; rfl
theorem ax_nat {x : Int} (h : 0 ≤ x) : x = ((x.toNat : Nat) : Int) := (Int.toNat_of_nonneg h).symm
theorem ax_and_nn {x y : Int} (h1 : 0 ≤ x) (h2 : x < 2147483648) (h3 : 0 ≤ y) : am_and x y = ((x.toNat &&& y.toNat : Nat) : Int) := by
  have e := ax_andN (a := x.toNat) (b := y.toNat) (by omega)
  rw [Int.toNat_of_nonneg h1, Int.toNat_of_nonneg h3] at e
  exact e
theorem ax_or_nn {x y : Int} (h1 : 0 ≤ x) (h2 : x < 2147483648) (h3 : 0 ≤ y) (h4 : y < 2147483648) : am_or x y = ((x.toNat ||| y.toNat : Nat) : Int) := by
  have e := ax_orN (a := x.toNat) (b := y.toNat) (by omega) (by omega)
  rw [Int.toNat_of_nonneg h1, Int.toNat_of_nonneg h3] at e
  exact e
theorem ax_xor_nn {x y : Int} (h1 : 0 ≤ x) (h2 : x < 2147483648) (h3 : 0 ≤ y) (h4 : y < 2147483648) : am_xor x y = ((x.toNat ^^^ y.toNat : Nat) : Int) := by
  have e := ax_xorN (a := x.toNat) (b := y.toNat) (by omega) (by omega)
  rw [Int.toNat_of_nonneg h1, Int.toNat_of_nonneg h3] at e
  exact e
theorem ax_shr_nn {x k : Int} (h1 : 0 ≤ x) (h2 : x < 2147483648) (h3 : 0 ≤ k) (h4 : k < 32) : am_shr x k = ((x.toNat / 2 ^ k.toNat : Nat) : Int) := by
  have e := ax_shrN (a := x.toNat) (k := k.toNat) (by omega) (by omega)
  rw [Int.toNat_of_nonneg h1, Int.toNat_of_nonneg h3] at e
  exact e
theorem ax_shl1 {k : Int} (h3 : 0 ≤ k) (h4 : k < 31) : am_shl 1 k = ((2 ^ k.toNat : Nat) : Int) := by
  have e := ax_shl1B ⟨k.toNat, by omega⟩
  rw [show ((⟨k.toNat, by omega⟩ : Fin 31).val : Int) = k from Int.toNat_of_nonneg h3] at e
  exact e
theorem ax_bit {x t : Int} (h1 : 0 ≤ x) (h2 : x < 2147483648) (h3 : 0 ≤ t) (h4 : t < 32) : (am_and (am_shr x t) 1 = 1) = (x.toNat.testBit t.toNat = true) := by
  rw [ax_shr_nn h1 h2 h3 h4]
  have h5 : x.toNat / 2 ^ t.toNat ≤ x.toNat := Nat.div_le_self _ _
  rw [Nat.testBit_eq_decide_div_mod_eq]
  generalize x.toNat / 2 ^ t.toNat = q at *
  rw [ax_and_nn (by omega) (by omega) (by omega)]
  have e : ((q : Int).toNat &&& (1 : Int).toNat : Nat) = q % 2 := by
    rw [Int.toNat_natCast]
    exact Nat.and_one_is_mod _
  rw [e]
  apply propext
  constructor
  · intro h; exact decide_eq_true (by omega)
  · intro h; have := of_decide_eq_true h; omega
