/-! texts: a clause is (what, one, two, three, code) -/
abbrev xcl : Type := Int × Int × Int × Int × List (Int × Int)
def XL (cl : List xcl) (k : Int) : Option (List (Int × Int)) := (cl.find? fun x => x.1 == k).map fun x => x.2.2.2.2
def XO (cl : List xcl) : Prop := cl.length ≤ 24 ∧ (∀ (j : Nat) (hj : j < cl.length), (0 ≤ cl[j].1 ∧ cl[j].1 ≤ 11) ∧ (cl[j].1 < 4 → lx_ok cl[j].1 cl[j].2.2.2.2) ∧ (4 ≤ cl[j].1 → cl[j].1 ≤ 10 → 0 ≤ cl[j].2.1 ∧ cl[j].2.1 ≤ 5) ∧ (cl[j].1 = 11 → 1 ≤ cl[j].2.1 ∧ cl[j].2.1 ≤ 60) ∧ (cl[j].1 = 4 ∨ cl[j].1 = 5 ∨ cl[j].1 = 7 ∨ cl[j].1 = 8 → 0 ≤ cl[j].2.2.1 ∧ cl[j].2.2.1 ≤ 7) ∧ (cl[j].1 = 9 → 0 ≤ cl[j].2.2.1 ∧ cl[j].2.2.1 ≤ 5) ∧ (cl[j].1 = 4 ∨ cl[j].1 = 5 → 1 ≤ cl[j].2.2.2.1 ∧ cl[j].2.2.2.1 ≤ 99)) ∧ (∀ (i j : Nat) (hi : i < cl.length) (hj : j < cl.length), cl[i].1 = cl[j].1 → cl[i].1 < 4 → i = j)
def xo1 (x : xcl) : Prop := (0 ≤ x.1 ∧ x.1 ≤ 11) ∧ (x.1 < 4 → lx_ok x.1 x.2.2.2.2) ∧ (4 ≤ x.1 → x.1 ≤ 10 → 0 ≤ x.2.1 ∧ x.2.1 ≤ 5) ∧ (x.1 = 11 → 1 ≤ x.2.1 ∧ x.2.1 ≤ 60) ∧ (x.1 = 4 ∨ x.1 = 5 ∨ x.1 = 7 ∨ x.1 = 8 → 0 ≤ x.2.2.1 ∧ x.2.2.1 ≤ 7) ∧ (x.1 = 9 → 0 ≤ x.2.2.1 ∧ x.2.2.1 ≤ 5) ∧ (x.1 = 4 ∨ x.1 = 5 → 1 ≤ x.2.2.2.1 ∧ x.2.2.2.1 ≤ 99)
theorem up_eq {f : Int → Int} {i v : Int} : up f i v i = v := if_pos rfl
theorem up_ne {f : Int → Int} {i v j : Int} (h : j ≠ i) : up f i v j = f j := if_neg h
theorem getE {cl : List xcl} {x : xcl} {i : Nat} (hi : i < (cl ++ [x]).length) : (∃ h : i < cl.length, (cl ++ [x])[i] = cl[i]) ∨ (i = cl.length ∧ (cl ++ [x])[i] = x) := by
  by_cases h : i < cl.length
  · exact Or.inl ⟨h, List.getElem_append_left h⟩
  · have e : i = cl.length := by
      rw [List.length_append, List.length_singleton] at hi; omega
    subst e
    exact Or.inr ⟨rfl, by simp⟩
theorem XO_add {cl : List xcl} {x : xcl} (h : XO cl) (n24 : cl.length < 24) (hx : xo1 x) (nt : x.1 < 4 → ∀ (i : Nat) (hi : i < cl.length), cl[i].1 ≠ x.1) : XO (cl ++ [x]) := by
  obtain ⟨a1, a2, a3⟩ := h
  refine ⟨by rw [List.length_append, List.length_singleton]; omega, fun j hj => ?_, fun i j hi hj e l => ?_⟩
  · rcases getE hj with ⟨h, e⟩ | ⟨_, e⟩
    · rw [e]; exact a2 j h
    · rw [e]; exact hx
  · rcases getE hi with ⟨h1, e1⟩ | ⟨h1, e1⟩
    · rcases getE hj with ⟨h2, e2⟩ | ⟨h2, e2⟩
      · rw [e1, e2] at e
        rw [e1] at l
        exact a3 i j h1 h2 e l
      · rw [e1, e2] at e
        rw [e1] at l
        exact absurd e (nt (by omega) i h1)
    · rcases getE hj with ⟨h2, e2⟩ | ⟨h2, e2⟩
      · rw [e1, e2] at e
        rw [e1] at l
        exact absurd e.symm (nt l j h2)
      · rw [h1, h2]
theorem XL_none {cl : List xcl} {k : Int} : XL cl k = none ↔ ∀ x ∈ cl, x.1 ≠ k := by
  unfold XL
  rw [Option.map_eq_none_iff, List.find?_eq_none]
  simp only [beq_iff_eq]
theorem XL_add {cl : List xcl} {x : xcl} {k : Int} : XL (cl ++ [x]) k = match XL cl k with
    | some code => some code
    | none => if x.1 = k then some x.2.2.2.2 else none := by
  unfold XL
  rw [List.find?_append]
  cases cl.find? fun y => y.1 == k with
  | some y => rfl
  | none =>
    show ([x].find? fun y => y.1 == k).map _ = if x.1 = k then some x.2.2.2.2 else none
    by_cases q : x.1 = k
    · rw [if_pos q, List.find?_cons_of_pos (by rw [beq_iff_eq]; exact q)]; rfl
    · rw [if_neg q, List.find?_cons_of_neg (by rw [beq_iff_eq]; exact q)]; rfl
/-- where codes lie -/
def LC (cs : List cd) (p q : Int) (code : List cd) : Prop := ∃ u v, cs = u ++ (code.reverse ++ v) ∧ p = ((v : List cd).length : Int) ∧ q = p + (code.length : Int)
def MO (cs : List cd) (p : Int) (code : List cd) : Prop := ∃ u v, cs = u ++ ((408, 0) :: (code.reverse ++ v)) ∧ p = ((v : List cd).length : Int)
theorem LC_app {cs w : List cd} {p q : Int} {code : List cd} (h : LC cs p q code) : LC (w ++ cs) p q code := by
  obtain ⟨u, v, a, b, c⟩ := h
  exact ⟨w ++ u, v, by rw [a, List.append_assoc], b, c⟩
theorem MO_app {cs w : List cd} {p : Int} {code : List cd} (h : MO cs p code) : MO (w ++ cs) p code := by
  obtain ⟨u, v, a, b⟩ := h
  exact ⟨w ++ u, v, by rw [a, List.append_assoc], b⟩
def XCk (c : CS) (cl : List xcl) (k : Int) : Prop := match XL cl k with
  | none => c.lf k < 0
  | some code => LC c.cs (c.lf k) (c.lt k) code
def XSi (c : CS) (s : PS) (i : Int) (x : xcl) : Prop := (c.kd i = x.1 ∧ s.kd i = x.1) ∧ (4 ≤ x.1 → c.nm (3 * i) = x.2.1 ∧ s.na i = x.2.1) ∧ (x.1 = 4 ∨ x.1 = 5 ∨ x.1 = 7 ∨ x.1 = 8 ∨ x.1 = 9 → c.nm (3 * i + 1) = x.2.2.1 ∧ s.nb i = x.2.2.1) ∧ (x.1 = 4 ∨ x.1 = 5 → c.nm (3 * i + 2) = x.2.2.2.1 ∧ s.nd i = x.2.2.2.1) ∧ (x.1 < 4 → MO s.cs (s.po i) x.2.2.2.2)
def XS (T : Nat) (c : CS) (s : PS) (cl : List xcl) : Prop := (s.st = 4 ∧ s.op = 0 ∧ s.fs = [] ∧ s.ws = []) ∧ (c.at_ = s.j ∧ s.j < T) ∧ (c.cs.length ≤ c.at_ ∧ s.cs.length ≤ s.j) ∧ (c.nl = cl.length ∧ s.nc = cl.length) ∧ XO cl ∧ (∀ k, 0 ≤ k → k < 4 → XCk c cl k) ∧ ∀ (i : Nat) (hi : i < cl.length), XSi c s i cl[i]
theorem XS_add {T : Nat} {c c' : CS} {s s' : PS} {cl : List xcl} (h : XS T c s cl) {x : xcl} {w w' : List cd} (n24 : cl.length < 24) (hx : xo1 x) (nt : x.1 < 4 → ∀ (i : Nat) (hi : i < cl.length), cl[i].1 ≠ x.1) (h1 : s'.st = 4 ∧ s'.op = 0 ∧ s'.fs = [] ∧ s'.ws = []) (h2 : c'.at_ = s'.j ∧ s'.j < T) (h3 : c'.cs.length ≤ c'.at_ ∧ s'.cs.length ≤ s'.j) (h4 : c'.nl = c.nl + 1 ∧ s'.nc = s.nc + 1) (h5 : c'.cs = w ++ c.cs ∧ s'.cs = w' ++ s.cs) (h6 : ∀ i : Int, i < (cl.length : Int) → c'.kd i = c.kd i ∧ s'.kd i = s.kd i ∧ s'.na i = s.na i ∧ s'.nb i = s.nb i ∧ s'.nd i = s.nd i ∧ s'.po i = s.po i) (h7 : ∀ i : Int, i < 3 * (cl.length : Int) → c'.nm i = c.nm i) (h8 : ∀ k, k ≠ x.1 → c'.lf k = c.lf k ∧ c'.lt k = c.lt k) (h9 : XSi c' s' (cl.length : Int) x) (hA : x.1 < 4 → LC c'.cs (c'.lf x.1) (c'.lt x.1) x.2.2.2.2) : XS T c' s' (cl ++ [x]) := by
  obtain ⟨_, _, _, ⟨b4, b5⟩, b6, b7, b8⟩ := h
  have len : (cl ++ [x]).length = cl.length + 1 := by rw [List.length_append, List.length_singleton]
  refine ⟨h1, h2, h3, ⟨by rw [len, h4.1, b4], by rw [len, h4.2, b5]⟩, XO_add b6 n24 hx nt, fun k k0 k4 => ?_, fun i hi => ?_⟩
  · have q := b7 k k0 k4
    unfold XCk at q ⊢
    rw [XL_add]
    by_cases e : x.1 = k
    · have : XL cl k = none := XL_none.mpr fun y hy => by
        obtain ⟨i, hi, rfl⟩ := List.mem_iff_getElem.mp hy
        rw [← e]
        exact nt (by omega) i hi
      rw [this]
      dsimp only
      rw [if_pos e]
      have := hA (by omega)
      rw [e] at this
      exact this
    · obtain ⟨l1, l2⟩ := h8 k fun z => e z.symm
      cases hc : XL cl k with
      | none =>
        rw [hc] at q
        dsimp only
        rw [if_neg e]
        show c'.lf k < 0
        rw [l1]; exact q
      | some code =>
        rw [hc] at q
        show LC c'.cs (c'.lf k) (c'.lt k) code
        rw [l1, l2, h5.1]
        exact LC_app q
  · rcases getE hi with ⟨hi', e⟩ | ⟨hi', e⟩
    · rw [e]
      obtain ⟨⟨q1, q2⟩, q3, q4, q5, q6⟩ := b8 i hi'
      obtain ⟨r1, r2, r3, r4, r5, r6⟩ := h6 i (by omega)
      refine ⟨⟨r1.trans q1, r2.trans q2⟩, fun z => ?_, fun z => ?_, fun z => ?_, fun z => ?_⟩
      · rw [h7 _ (by omega), r3]; exact q3 z
      · rw [h7 _ (by omega), r4]; exact q4 z
      · rw [h7 _ (by omega), r5]; exact q5 z
      · rw [h5.2, r6]; exact MO_app (q6 z)
    · rw [e, hi']; exact h9
theorem XS_told {T : Nat} {c : CS} {s : PS} {cl : List xcl} (h : XS T c s cl) {k : Int} (k0 : 0 ≤ k) : (k < 4 ∧ 0 ≤ c.lf k ↔ toldL s k) ∧ (toldL s k ↔ k < 4 ∧ ∃ (i : Nat) (hi : i < cl.length), cl[i].1 = k) := by
  obtain ⟨_, _, _, ⟨b4, b5⟩, b6, b7, b8⟩ := h
  have e2 : toldL s k ↔ k < 4 ∧ ∃ (i : Nat) (hi : i < cl.length), cl[i].1 = k := by
    constructor
    · rintro ⟨q1, j, j0, j1, j2⟩
      refine ⟨by omega, j.toNat, by omega, ?_⟩
      have := (b8 j.toNat (by omega)).1.2
      rw [← this, show ((j.toNat : Nat) : Int) = j by omega]
      exact j2
    · rintro ⟨q1, i, hi, q2⟩
      exact ⟨by omega, i, by omega, by omega, (b8 i hi).1.2.trans q2⟩
  refine ⟨?_, e2⟩
  rw [e2]
  constructor
  · rintro ⟨q1, q2⟩
    refine ⟨q1, ?_⟩
    have q := b7 k k0 q1
    unfold XCk at q
    cases hc : XL cl k with
    | none => rw [hc] at q; have q : c.lf k < 0 := q; omega
    | some code =>
      by_cases z : ∃ (i : Nat) (hi : i < cl.length), cl[i].1 = k
      · exact z
      · have : XL cl k = none := XL_none.mpr fun y hy e => by
          obtain ⟨i, hi, rfl⟩ := List.mem_iff_getElem.mp hy
          exact z ⟨i, hi, e⟩
        rw [this] at hc; cases hc
  · rintro ⟨q1, i, hi, q2⟩
    refine ⟨q1, ?_⟩
    have q := b7 k k0 q1
    unfold XCk at q
    cases hc : XL cl k with
    | none => exact absurd q2 (XL_none.mp hc _ (List.getElem_mem hi))
    | some code =>
      rw [hc] at q
      obtain ⟨u, v, _, q3, _⟩ := q
      omega
