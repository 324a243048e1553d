/-! sets: bits -/
theorem nz_iff (x : Nat) : x = 0 ↔ ∀ i, x.testBit i = false := ⟨fun h i => by rw [h]; exact Nat.zero_testBit i, fun h => Nat.eq_of_testBit_eq fun i => by rw [h i, Nat.zero_testBit]⟩
theorem nb_sub (a b : Nat) : a &&& b = b ↔ ∀ i, b.testBit i = true → a.testBit i = true := by
  constructor
  · intro h i hb
    rw [← h, Nat.testBit_and] at hb
    exact (Bool.and_eq_true_iff.mp hb).1
  · intro h
    refine Nat.eq_of_testBit_eq fun i => ?_
    rw [Nat.testBit_and]
    cases hb : b.testBit i with
    | false => rw [Bool.and_false]
    | true => rw [h i hb]; rfl
theorem nb_oa {s z f : Nat} : (s ||| 2 ^ f) &&& z = 0 ↔ s &&& z = 0 ∧ z.testBit f = false := by
  rw [nz_iff, nz_iff]
  constructor
  · intro h
    refine ⟨fun i => ?_, ?_⟩
    · have h1 := h i
      rw [Nat.testBit_and, Nat.testBit_or] at h1
      rw [Nat.testBit_and]
      cases h2 : s.testBit i with
      | false => rfl
      | true => rw [h2] at h1; exact h1
    · have h1 := h f
      rw [Nat.testBit_and, Nat.testBit_or, Nat.testBit_two_pow_self, Bool.or_true, Bool.true_and] at h1
      exact h1
  · intro ⟨h1, h2⟩ i
    have h3 := h1 i
    rw [Nat.testBit_and] at h3
    rw [Nat.testBit_and, Nat.testBit_or]
    by_cases e : f = i
    · rw [← e, h2, Bool.and_false]
    · rw [Nat.testBit_two_pow_of_ne e, Bool.or_false, h3]
theorem nb_ao {s z f : Nat} : z &&& (s ||| 2 ^ f) = s ||| 2 ^ f ↔ z &&& s = s ∧ z.testBit f = true := by
  rw [nb_sub, nb_sub]
  constructor
  · intro h
    refine ⟨fun i hi => h i ?_, h f ?_⟩
    · rw [Nat.testBit_or, hi]; rfl
    · rw [Nat.testBit_or, Nat.testBit_two_pow_self, Bool.or_true]
  · intro ⟨h1, h2⟩ i hi
    by_cases e : f = i
    · rw [← e]; exact h2
    · rw [Nat.testBit_or, Nat.testBit_two_pow_of_ne e, Bool.or_false] at hi
      exact h1 i hi
theorem nb_nz {s f : Nat} : s ||| 2 ^ f ≠ 0 := fun h => by
  have h1 : (s ||| 2 ^ f).testBit f = true := by rw [Nat.testBit_or, Nat.testBit_two_pow_self, Bool.or_true]
  rw [h, Nat.zero_testBit] at h1
  cases h1
theorem bi_p {f : Int} (f0 : 0 ≤ f) (f1 : f < 8) : 2 ^ f.toNat < 256 := Nat.pow_lt_pow_right (n := 8) (by decide) (by omega)
theorem bi_p0 {f : Int} : 1 ≤ 2 ^ f.toNat := Nat.one_le_two_pow
theorem bi_or {s z f : Int} (s0 : 0 ≤ s) (s1 : s < 256) (z0 : 0 ≤ z) (z1 : z < 256) (f0 : 0 ≤ f) (f1 : f < 8) : (0 ≤ am_or s (am_shl 1 f) ∧ am_or s (am_shl 1 f) < 256) ∧ am_or s (am_shl 1 f) ≠ 0 ∧ (am_and (am_or s (am_shl 1 f)) z = 0 ↔ am_and s z = 0 ∧ ¬ am_and (am_shr z f) 1 = 1) ∧ (am_and z (am_or s (am_shl 1 f)) = 0 ↔ am_and z s = 0 ∧ ¬ am_and (am_shr z f) 1 = 1) ∧ (am_and z (am_or s (am_shl 1 f)) = am_or s (am_shl 1 f) ↔ am_and z s = s ∧ am_and (am_shr z f) 1 = 1) := by
  have p := bi_p f0 f1
  have p0 := bi_p0 (f := f)
  have hb := ax_bit (x := z) (t := f) z0 (by omega) f0 (by omega)
  have o := ax_or_nn (x := s) (y := ((2 ^ f.toNat : Nat) : Int)) s0 (by omega) (by omega) (by omega)
  rw [Int.toNat_natCast] at o
  rw [ax_shl1 f0 (by omega), o, hb]
  have ob := Nat.or_lt_two_pow (n := 8) (x := s.toNat) (y := 2 ^ f.toNat) (by omega) p
  have h1 := nb_oa (s := s.toNat) (z := z.toNat) (f := f.toNat)
  have h2 := nb_ao (s := s.toNat) (z := z.toNat) (f := f.toNat)
  have h3 := nb_nz (s := s.toNat) (f := f.toNat)
  have h4 := Nat.and_comm (s.toNat ||| 2 ^ f.toNat) z.toNat
  have h5 := Nat.and_comm s.toNat z.toNat
  generalize hq : s.toNat ||| 2 ^ f.toNat = q at *
  have ob : q < 256 := ob
  have a1 := ax_and_nn (x := (q : Int)) (y := z) (by omega) (by omega) z0
  have a2 := ax_and_nn (x := s) (y := z) s0 (by omega) z0
  have a3 := ax_and_nn (x := z) (y := (q : Int)) z0 (by omega) (by omega)
  have a4 := ax_and_nn (x := z) (y := s) z0 (by omega) s0
  rw [Int.toNat_natCast] at a1 a3
  rw [a1, a2, a3, a4]
  have n1 : (z.toNat.testBit f.toNat = false) ↔ ¬ (z.toNat.testBit f.toNat = true) := by simp
  rw [n1] at h1
  generalize (z.toNat.testBit f.toNat = true) = B at *
  refine ⟨⟨by omega, by omega⟩, by omega, ?_, ?_, ?_⟩
  · constructor
    · intro h; have := h1.mp (by omega); exact ⟨by omega, this.2⟩
    · intro ⟨h, h'⟩; have := h1.mpr ⟨by omega, h'⟩; omega
  · constructor
    · intro h; have := h1.mp (by omega); exact ⟨by omega, this.2⟩
    · intro ⟨h, h'⟩; have := h1.mpr ⟨by omega, h'⟩; omega
  · constructor
    · intro h; have := h2.mp (by omega); exact ⟨by omega, this.2⟩
    · intro ⟨h, h'⟩; have := h2.mpr ⟨by omega, h'⟩; omega
theorem shl0B : ∀ k : Fin 8, am_shl 0 (k.val : Int) = 0 := by decide +kernel
theorem shl0 {f : Int} (f0 : 0 ≤ f) (f1 : f < 8) : am_shl 0 f = 0 := by
  have h := shl0B ⟨f.toNat, by omega⟩
  rw [show ((⟨f.toNat, by omega⟩ : Fin 8).val : Int) = f from Int.toNat_of_nonneg f0] at h
  exact h
theorem and_z0 {x : Int} (x0 : 0 ≤ x) (x1 : x < 256) : am_and x 0 = 0 ∧ am_and 0 x = 0 := by
  rw [ax_and_nn x0 (by omega) (by omega), ax_and_nn (by omega) (by omega) x0]
  exact ⟨by rw [Int.toNat_zero, Nat.and_zero]; rfl, by rw [Int.toNat_zero, Nat.zero_and]; rfl⟩
/-! all of a range -/
def ax_al (f : Int → Bool) : Nat → Int → Bool
  | 0, _ => true
  | n + 1, k => f k && ax_al f n (k + 1)
theorem ax_al_iff {f : Int → Bool} : ∀ (n : Nat) (k : Int), ax_al f n k = true ↔ ∀ j, k ≤ j → j < k + n → f j = true := by
  intro n
  induction n with
  | zero => intro k; exact ⟨fun _ j h1 h2 => by omega, fun _ => rfl⟩
  | succ n ih =>
    intro k
    show (f k && ax_al f n (k + 1)) = true ↔ _
    rw [Bool.and_eq_true_iff, ih]
    constructor
    · intro ⟨h1, h2⟩ j j0 j1
      by_cases e : j = k
      · rw [e]; exact h1
      · exact h2 j (by omega) (by omega)
    · intro h
      exact ⟨h k (by omega) (by omega), fun j j0 j1 => h j (by omega) (by omega)⟩
theorem ax_loopA {β : Type} {X : Int → β} {f : Int → Bool} {E1 E0 : β} {n : Int} (hs : ∀ k, 0 ≤ k → k < n → X k = if f k = true then X (k + 1) else E0) (he : X n = E1) : ∀ (j : Nat) (k : Int), 0 ≤ k → k + j = n → X k = if ax_al f j k = true then E1 else E0 := by
  intro j
  induction j with
  | zero =>
    intro k k0 h
    have : k = n := by omega
    subst this
    exact he
  | succ j ih =>
    intro k k0 h
    rw [hs k k0 (by omega), ih (k + 1) (by omega) (by omega)]
    show _ = if (f k && ax_al f j (k + 1)) = true then E1 else E0
    cases f k with
    | false => rfl
    | true => rfl
/-! who leads -/
def ldF (L : Int → Int) (x t s : Int) : Int := am_or s (am_shl (am_and (am_shr (L t) x) 1) t)
def lds (L : Int → Int) (T x : Int) : Int := ax_fo (ldF L x) (T - 0).toNat 0 0
def fgF (L : Int → Int) (z x q : Int) (a : Int × Int) : Int × Int := if am_and (am_shr (L q) x) 1 = 1 then (1, if am_and (am_shr z q) 1 = 1 then 1 else a.2) else a
theorem ld_fg {L : Int → Int} {T z x : Int} (T0 : 0 ≤ T) (T8 : T ≤ 8) (z0 : 0 ≤ z) (z1 : z < 256) : (0 ≤ lds L T x ∧ lds L T x < 256) ∧ (lds L T x = 0 ↔ (ax_fo (fgF L z x) (T - 0).toNat 0 (0, 0)).1 = 0) ∧ (am_and (lds L T x) z = 0 ↔ (ax_fo (fgF L z x) (T - 0).toNat 0 (0, 0)).2 = 0) := by
  unfold lds
  refine ax_fo_rel (α := Int) (β := Int × Int) (f := ldF L x) (g := fgF L z x) (P := fun _ s a => (0 ≤ s ∧ s < 256) ∧ (s = 0 ↔ a.1 = 0) ∧ (am_and s z = 0 ↔ a.2 = 0)) _ _ _ _ (fun q s a q0 q1 h => ?_) ⟨by omega, by simp, by simp [(and_z0 z0 z1).2]⟩
  obtain ⟨hs, h1, h2⟩ := h
  unfold ldF fgF
  rcases ax_01 (am_shr (L q) x) with e | e
  · rw [e, shl0 q0 (by omega), ax_or0 hs.1 (by omega), if_neg (by decide)]
    exact ⟨hs, h1, h2⟩
  · rw [e, if_pos rfl]
    obtain ⟨b1, b2, b3, -, -⟩ := bi_or (f := q) hs.1 hs.2 z0 z1 q0 (by omega)
    refine ⟨b1, ⟨fun h => absurd h b2, fun h => absurd h (by simp)⟩, ?_⟩
    rw [b3, h2]
    show _ ↔ (if am_and (am_shr z q) 1 = 1 then 1 else a.2) = 0
    by_cases hb : am_and (am_shr z q) 1 = 1
    · rw [if_pos hb]; exact ⟨fun h => absurd hb h.2, fun h => absurd h (by decide)⟩
    · rw [if_neg hb]; exact ⟨fun h => h.1, fun h => ⟨h, hb⟩⟩
