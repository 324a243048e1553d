/-! fewSmells: up with < is down with ≤ -/
section
variable {F : Int → Prop} {p : Int → Int}
def fwU (F : Int → Prop) [DecidablePred F] (p : Int → Int) (k s : Int) : Int := if s = -1 then (if F k then k else s) else if p k < p s then (if F k then k else s) else s
def fwD (F : Int → Prop) [DecidablePred F] (p : Int → Int) (k s : Int) : Int := if F k then (if s = -1 then k else if p k ≤ p s then k else s) else s
def fwQ (F : Int → Prop) (p : Int → Int) (lo hi s : Int) : Prop := (s = -1 ∧ ∀ k, lo ≤ k → k < hi → ¬ F k) ∨ (0 ≤ s ∧ lo ≤ s ∧ s < hi ∧ F s ∧ ∀ k, lo ≤ k → k < hi → F k → p s < p k ∨ (p s = p k ∧ s ≤ k))
theorem fwU_s [DecidablePred F] {k s : Int} (k0 : 0 ≤ k) (q : fwQ F p 0 k s) : fwQ F p 0 (k + 1) (fwU F p k s) := by
  unfold fwU
  rcases q with ⟨rfl, q⟩ | ⟨s0, q1, q2, q3, q4⟩
  · rw [if_pos rfl]
    by_cases f : F k
    · rw [if_pos f]
      refine Or.inr ⟨k0, k0, by omega, f, fun j j0 j1 g => ?_⟩
      by_cases e : j = k
      · subst e; exact Or.inr ⟨rfl, Int.le_refl _⟩
      · exact absurd g (q j j0 (by omega))
    · rw [if_neg f]
      refine Or.inl ⟨rfl, fun j j0 j1 g => ?_⟩
      by_cases e : j = k
      · subst e; exact f g
      · exact q j j0 (by omega) g
  · rw [if_neg (by omega)]
    have keep : ¬ (p k < p s ∧ F k) → fwQ F p 0 (k + 1) s := fun h => Or.inr ⟨s0, q1, by omega, q3, fun j j0 j1 g => by
      by_cases e : j = k
      · subst e
        have : ¬ p j < p s := fun h1 => h ⟨h1, g⟩
        omega
      · exact q4 j j0 (by omega) g⟩
    by_cases h : p k < p s
    · rw [if_pos h]
      by_cases f : F k
      · rw [if_pos f]
        refine Or.inr ⟨k0, k0, by omega, f, fun j j0 j1 g => ?_⟩
        by_cases e : j = k
        · subst e; exact Or.inr ⟨rfl, Int.le_refl _⟩
        · have := q4 j j0 (by omega) g
          left; omega
      · rw [if_neg f]; exact keep fun h => f h.2
    · rw [if_neg h]; exact keep fun h1 => h h1.1
theorem fwD_s [DecidablePred F] {k s n : Int} (k0 : 0 ≤ k) (k1 : k < n) (q : fwQ F p (k + 1) n s) : fwQ F p k n (fwD F p k s) := by
  unfold fwD
  rcases q with ⟨rfl, q⟩ | ⟨s0, q1, q2, q3, q4⟩
  · by_cases f : F k
    · rw [if_pos f, if_pos rfl]
      refine Or.inr ⟨k0, Int.le_refl _, k1, f, fun j j0 j1 g => ?_⟩
      by_cases e : j = k
      · subst e; exact Or.inr ⟨rfl, Int.le_refl _⟩
      · exact absurd g (q j (by omega) j1)
    · rw [if_neg f]
      refine Or.inl ⟨rfl, fun j j0 j1 g => ?_⟩
      by_cases e : j = k
      · subst e; exact f g
      · exact q j (by omega) j1 g
  · by_cases f : F k
    · rw [if_pos f, if_neg (by omega)]
      by_cases h : p k ≤ p s
      · rw [if_pos h]
        refine Or.inr ⟨k0, Int.le_refl _, k1, f, fun j j0 j1 g => ?_⟩
        by_cases e : j = k
        · subst e; exact Or.inr ⟨rfl, Int.le_refl _⟩
        · have := q4 j (by omega) j1 g
          omega
      · rw [if_neg h]
        refine Or.inr ⟨s0, by omega, q2, q3, fun j j0 j1 g => ?_⟩
        by_cases e : j = k
        · subst e; left; omega
        · exact q4 j (by omega) j1 g
    · rw [if_neg f]
      refine Or.inr ⟨s0, by omega, q2, q3, fun j j0 j1 g => ?_⟩
      by_cases e : j = k
      · subst e; exact absurd g f
      · exact q4 j (by omega) j1 g
theorem fwQ_u {n s s' : Int} (a : fwQ F p 0 n s) (b : fwQ F p 0 n s') : s = s' := by
  rcases a with ⟨rfl, a⟩ | ⟨a0, a1, a2, a3, a4⟩
  · rcases b with ⟨rfl, b⟩ | ⟨b0, b1, b2, b3, b4⟩
    · rfl
    · exact absurd b3 (a s' b1 b2)
  · rcases b with ⟨rfl, b⟩ | ⟨b0, b1, b2, b3, b4⟩
    · exact absurd a3 (b s a1 a2)
    · have h1 := a4 s' b1 b2 b3
      have h2 := b4 s a1 a2 a3
      omega
theorem few [DecidablePred F] {n : Int} (n0 : 0 ≤ n) : ax_fo (fwU F p) (n - 0).toNat 0 (-1) = ax_fo (fun i s => fwD F p (n - 1 - i) s) (n - 0).toNat 0 (-1) := by
  have h1 := ax_fo_inv (f := fwU F p) (P := fun i s => fwQ F p 0 i s) (n - 0).toNat 0 (-1) (fun i s i0 _ q => fwU_s i0 q) (Or.inl ⟨rfl, fun k h0 h1 => by omega⟩)
  have h2 := ax_fo_inv (f := fun i s => fwD F p (n - 1 - i) s) (P := fun i s => fwQ F p (n - i) n s) (n - 0).toNat 0 (-1) (fun i s i0 i1 q => by
    have := fwD_s (F := F) (p := p) (k := n - 1 - i) (n := n) (s := s) (by omega) (by omega) (by rw [show n - 1 - i + 1 = n - i by omega]; exact q)
    rw [show n - (i + 1) = n - 1 - i by omega]
    exact this) (Or.inl ⟨rfl, fun k h0 h1 => by omega⟩)
  rw [show (0 : Int) + ((n - 0).toNat : Int) = n by omega] at h1 h2
  rw [show n - n = (0 : Int) by omega] at h2
  exact fwQ_u h1 h2
end
