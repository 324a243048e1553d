/-! TEXT, the model's side: its parser's state, and its small methods -/
def PS : Type := Nat × Int × Int × Int × List (Int × Int) × List (Int × Int) × List cd × Nat × (Int → Int) × (Int → Int) × (Int → Int) × (Int → Int) × (Int → Int)
def PS.mk (j : Nat) (st : Int) (op : Int) (nk : Int) (fs : List (Int × Int)) (ws : List (Int × Int)) (cs : List cd) (nc : Nat) (kd : Int → Int) (po : Int → Int) (na : Int → Int) (nb : Int → Int) (nd : Int → Int) : PS := (j, st, op, nk, fs, ws, cs, nc, kd, po, na, nb, nd)
def PS.j (s : PS) : Nat := s.1
def PS.st (s : PS) : Int := s.2.1
def PS.op (s : PS) : Int := s.2.2.1
def PS.nk (s : PS) : Int := s.2.2.2.1
def PS.fs (s : PS) : List (Int × Int) := s.2.2.2.2.1
def PS.ws (s : PS) : List (Int × Int) := s.2.2.2.2.2.1
def PS.cs (s : PS) : List cd := s.2.2.2.2.2.2.1
def PS.nc (s : PS) : Nat := s.2.2.2.2.2.2.2.1
def PS.kd (s : PS) : Int → Int := s.2.2.2.2.2.2.2.2.1
def PS.po (s : PS) : Int → Int := s.2.2.2.2.2.2.2.2.2.1
def PS.na (s : PS) : Int → Int := s.2.2.2.2.2.2.2.2.2.2.1
def PS.nb (s : PS) : Int → Int := s.2.2.2.2.2.2.2.2.2.2.2.1
def PS.nd (s : PS) : Int → Int := s.2.2.2.2.2.2.2.2.2.2.2.2
abbrev MX := Except (Int × Int × Nat) PS
def mcl (x i : Int) : Prop := (x = 447 ∧ ((15 ≤ i ∧ i ≤ 22) ∨ i = 25 ∨ i = 28 ∨ i = 29 ∨ i = 30 ∨ i = 36)) ∨ (459 ≤ x ∧ x ≤ 469)
def FST (M : am_M) : List (Int × Int) → Prop
  | [] => True
  | z :: l => am_rd M 459 (l.length : Int) = z.1 ∧ (z.1 = 5 → am_rd M 460 ((l.length : Int) + 1) = z.2) ∧ FST M l
def WST (M : am_M) : List (Int × Int) → Prop
  | [] => True
  | z :: l => am_rd M 461 (l.length : Int) = z.1 ∧ am_rd M 462 (l.length : Int) = z.2 ∧ WST M l
def OST (M : am_M) : List cd → Prop
  | [] => True
  | z :: l => am_rd M 468 (l.length : Int) = z.1 ∧ am_rd M 469 (l.length : Int) = z.2 ∧ OST M l
section
variable (N0 : am_M) (T : Nat) (S I P Q : Int → Int)
def PM (s : PS) (M : am_M) : Prop :=
  (ax_K M) ∧
  (∀ x i, ¬ mcl x i → am_rd M x i = am_rd N0 x i) ∧
  (s.j < T) ∧
  (am_rd M 447 15 = Q ((s.j : Int) + 1)) ∧
  (am_rd M 447 16 = P s.j) ∧
  (am_rd M 447 17 = S s.j) ∧
  (am_rd M 447 18 = I s.j) ∧
  (am_rd M 447 19 = 0) ∧
  (am_rd M 447 20 = -1) ∧
  (am_rd M 447 21 = s.op) ∧
  (am_rd M 447 22 = (s.fs.length : Int)) ∧
  (FST M s.fs) ∧
  (am_rd M 447 25 = (s.ws.length : Int)) ∧
  (WST M s.ws) ∧
  (am_rd M 447 28 = s.st) ∧
  (am_rd M 447 30 = s.nk) ∧
  (am_rd M 447 36 = (s.cs.length : Int)) ∧
  (OST M s.cs) ∧
  (am_rd M 447 29 = (s.nc : Int)) ∧
  (s.nc ≤ 24) ∧
  (∀ k, 0 ≤ k → k < 24 → am_rd M 463 k = s.kd k) ∧
  (∀ k, 0 ≤ k → k < 24 → am_rd M 464 k = s.po k) ∧
  (∀ k, 0 ≤ k → k < 24 → am_rd M 465 k = s.na k) ∧
  (∀ k, 0 ≤ k → k < 24 → am_rd M 466 k = s.nb k) ∧
  (∀ k, 0 ≤ k → k < 24 → am_rd M 467 k = s.nd k)
theorem PM.hK {N0 : am_M} {T : Nat} {S I P Q : Int → Int} {s : PS} {M : am_M} (h : PM N0 T S I P Q s M) : ax_K M := h.1
theorem PM.fr {N0 : am_M} {T : Nat} {S I P Q : Int → Int} {s : PS} {M : am_M} (h : PM N0 T S I P Q s M) : ∀ x i, ¬ mcl x i → am_rd M x i = am_rd N0 x i := h.2.1
theorem PM.lt {N0 : am_M} {T : Nat} {S I P Q : Int → Int} {s : PS} {M : am_M} (h : PM N0 T S I P Q s M) : s.j < T := h.2.2.1
theorem PM.p {N0 : am_M} {T : Nat} {S I P Q : Int → Int} {s : PS} {M : am_M} (h : PM N0 T S I P Q s M) : am_rd M 447 15 = Q ((s.j : Int) + 1) := h.2.2.2.1
theorem PM.tk {N0 : am_M} {T : Nat} {S I P Q : Int → Int} {s : PS} {M : am_M} (h : PM N0 T S I P Q s M) : am_rd M 447 16 = P s.j := h.2.2.2.2.1
theorem PM.so {N0 : am_M} {T : Nat} {S I P Q : Int → Int} {s : PS} {M : am_M} (h : PM N0 T S I P Q s M) : am_rd M 447 17 = S s.j := h.2.2.2.2.2.1
theorem PM.is {N0 : am_M} {T : Nat} {S I P Q : Int → Int} {s : PS} {M : am_M} (h : PM N0 T S I P Q s M) : am_rd M 447 18 = I s.j := h.2.2.2.2.2.2.1
theorem PM.wr {N0 : am_M} {T : Nat} {S I P Q : Int → Int} {s : PS} {M : am_M} (h : PM N0 T S I P Q s M) : am_rd M 447 19 = 0 := h.2.2.2.2.2.2.2.1
theorem PM.wa {N0 : am_M} {T : Nat} {S I P Q : Int → Int} {s : PS} {M : am_M} (h : PM N0 T S I P Q s M) : am_rd M 447 20 = -1 := h.2.2.2.2.2.2.2.2.1
theorem PM.op {N0 : am_M} {T : Nat} {S I P Q : Int → Int} {s : PS} {M : am_M} (h : PM N0 T S I P Q s M) : am_rd M 447 21 = s.op := h.2.2.2.2.2.2.2.2.2.1
theorem PM.fn {N0 : am_M} {T : Nat} {S I P Q : Int → Int} {s : PS} {M : am_M} (h : PM N0 T S I P Q s M) : am_rd M 447 22 = (s.fs.length : Int) := h.2.2.2.2.2.2.2.2.2.2.1
theorem PM.fs {N0 : am_M} {T : Nat} {S I P Q : Int → Int} {s : PS} {M : am_M} (h : PM N0 T S I P Q s M) : FST M s.fs := h.2.2.2.2.2.2.2.2.2.2.2.1
theorem PM.wn {N0 : am_M} {T : Nat} {S I P Q : Int → Int} {s : PS} {M : am_M} (h : PM N0 T S I P Q s M) : am_rd M 447 25 = (s.ws.length : Int) := h.2.2.2.2.2.2.2.2.2.2.2.2.1
theorem PM.ws {N0 : am_M} {T : Nat} {S I P Q : Int → Int} {s : PS} {M : am_M} (h : PM N0 T S I P Q s M) : WST M s.ws := h.2.2.2.2.2.2.2.2.2.2.2.2.2.1
theorem PM.st {N0 : am_M} {T : Nat} {S I P Q : Int → Int} {s : PS} {M : am_M} (h : PM N0 T S I P Q s M) : am_rd M 447 28 = s.st := h.2.2.2.2.2.2.2.2.2.2.2.2.2.2.1
theorem PM.nk {N0 : am_M} {T : Nat} {S I P Q : Int → Int} {s : PS} {M : am_M} (h : PM N0 T S I P Q s M) : am_rd M 447 30 = s.nk := h.2.2.2.2.2.2.2.2.2.2.2.2.2.2.2.1
theorem PM.on {N0 : am_M} {T : Nat} {S I P Q : Int → Int} {s : PS} {M : am_M} (h : PM N0 T S I P Q s M) : am_rd M 447 36 = (s.cs.length : Int) := h.2.2.2.2.2.2.2.2.2.2.2.2.2.2.2.2.1
theorem PM.cs {N0 : am_M} {T : Nat} {S I P Q : Int → Int} {s : PS} {M : am_M} (h : PM N0 T S I P Q s M) : OST M s.cs := h.2.2.2.2.2.2.2.2.2.2.2.2.2.2.2.2.2.1
theorem PM.nc {N0 : am_M} {T : Nat} {S I P Q : Int → Int} {s : PS} {M : am_M} (h : PM N0 T S I P Q s M) : am_rd M 447 29 = (s.nc : Int) := h.2.2.2.2.2.2.2.2.2.2.2.2.2.2.2.2.2.2.1
theorem PM.n2 {N0 : am_M} {T : Nat} {S I P Q : Int → Int} {s : PS} {M : am_M} (h : PM N0 T S I P Q s M) : s.nc ≤ 24 := h.2.2.2.2.2.2.2.2.2.2.2.2.2.2.2.2.2.2.2.1
theorem PM.kd {N0 : am_M} {T : Nat} {S I P Q : Int → Int} {s : PS} {M : am_M} (h : PM N0 T S I P Q s M) : ∀ k, 0 ≤ k → k < 24 → am_rd M 463 k = s.kd k := h.2.2.2.2.2.2.2.2.2.2.2.2.2.2.2.2.2.2.2.2.1
theorem PM.po {N0 : am_M} {T : Nat} {S I P Q : Int → Int} {s : PS} {M : am_M} (h : PM N0 T S I P Q s M) : ∀ k, 0 ≤ k → k < 24 → am_rd M 464 k = s.po k := h.2.2.2.2.2.2.2.2.2.2.2.2.2.2.2.2.2.2.2.2.2.1
theorem PM.na {N0 : am_M} {T : Nat} {S I P Q : Int → Int} {s : PS} {M : am_M} (h : PM N0 T S I P Q s M) : ∀ k, 0 ≤ k → k < 24 → am_rd M 465 k = s.na k := h.2.2.2.2.2.2.2.2.2.2.2.2.2.2.2.2.2.2.2.2.2.2.1
theorem PM.nb {N0 : am_M} {T : Nat} {S I P Q : Int → Int} {s : PS} {M : am_M} (h : PM N0 T S I P Q s M) : ∀ k, 0 ≤ k → k < 24 → am_rd M 466 k = s.nb k := h.2.2.2.2.2.2.2.2.2.2.2.2.2.2.2.2.2.2.2.2.2.2.2.1
theorem PM.nd {N0 : am_M} {T : Nat} {S I P Q : Int → Int} {s : PS} {M : am_M} (h : PM N0 T S I P Q s M) : ∀ k, 0 ≤ k → k < 24 → am_rd M 467 k = s.nd k := h.2.2.2.2.2.2.2.2.2.2.2.2.2.2.2.2.2.2.2.2.2.2.2.2
def PN (e : Int × Int × Nat) (M : am_M) : Prop :=
  (ax_K M) ∧
  (∀ x i, ¬ mcl x i → am_rd M x i = am_rd N0 x i) ∧
  (am_rd M 447 19 = e.1) ∧
  (1 ≤ e.1) ∧
  (am_rd M 447 20 = e.2.1) ∧
  (am_rd M 447 29 = (e.2.2 : Int))
theorem PN.hK {N0 : am_M} {e : Int × Int × Nat} {M : am_M} (h : PN N0 e M) : ax_K M := h.1
theorem PN.fr {N0 : am_M} {e : Int × Int × Nat} {M : am_M} (h : PN N0 e M) : ∀ x i, ¬ mcl x i → am_rd M x i = am_rd N0 x i := h.2.1
theorem PN.wr {N0 : am_M} {e : Int × Int × Nat} {M : am_M} (h : PN N0 e M) : am_rd M 447 19 = e.1 := h.2.2.1
theorem PN.w0 {N0 : am_M} {e : Int × Int × Nat} {M : am_M} (h : PN N0 e M) : 1 ≤ e.1 := h.2.2.2.1
theorem PN.wa {N0 : am_M} {e : Int × Int × Nat} {M : am_M} (h : PN N0 e M) : am_rd M 447 20 = e.2.1 := h.2.2.2.2.1
theorem PN.nc {N0 : am_M} {e : Int × Int × Nat} {M : am_M} (h : PN N0 e M) : am_rd M 447 29 = (e.2.2 : Int) := h.2.2.2.2.2
def PY : MX → am_M → Prop
  | .ok s, M => PM N0 T S I P Q s M
  | .error e, M => PN N0 e M
end
/-- the same list of stacks, where their cells have stayed -/
theorem FST_congr {M M' : am_M} : ∀ {l : List (Int × Int)}, FST M l → (∀ i, 0 ≤ i → i < (l.length : Int) → am_rd M' 459 i = am_rd M 459 i) → (∀ i, 0 ≤ i → i ≤ (l.length : Int) → am_rd M' 460 i = am_rd M 460 i) → FST M' l := by
  intro l
  induction l with
  | nil => intro _ _ _; trivial
  | cons z l ih =>
    intro h e e2
    refine ⟨(e _ (by omega) (by rw [List.length_cons]; omega)).trans h.1, fun q => (e2 _ (by omega) (by rw [List.length_cons]; omega)).trans (h.2.1 q), ih h.2.2 (fun i i0 i1 => e i i0 (by rw [List.length_cons]; omega)) fun i i0 i1 => e2 i i0 (by rw [List.length_cons]; omega)⟩
theorem WST_congr {M M' : am_M} : ∀ {l : List (Int × Int)}, WST M l → (∀ i, 0 ≤ i → i < (l.length : Int) → am_rd M' 461 i = am_rd M 461 i ∧ am_rd M' 462 i = am_rd M 462 i) → WST M' l := by
  intro l
  induction l with
  | nil => intro _ _; trivial
  | cons z l ih =>
    intro h e
    have q := e l.length (by omega) (by rw [List.length_cons]; omega)
    exact ⟨q.1.trans h.1, q.2.trans h.2.1, ih h.2.2 fun i i0 i1 => e i i0 (by rw [List.length_cons]; omega)⟩
theorem OST_congr {M M' : am_M} : ∀ {l : List cd}, OST M l → (∀ i, 0 ≤ i → i < (l.length : Int) → am_rd M' 468 i = am_rd M 468 i ∧ am_rd M' 469 i = am_rd M 469 i) → OST M' l := by
  intro l
  induction l with
  | nil => intro _ _; trivial
  | cons z l ih =>
    intro h e
    have q := e l.length (by omega) (by rw [List.length_cons]; omega)
    exact ⟨q.1.trans h.1, q.2.trans h.2.1, ih h.2.2 fun i i0 i1 => e i i0 (by rw [List.length_cons]; omega)⟩
theorem m_wr {M : am_M} {i v : Int} (hK : ax_K M) (h : mcl 447 i) : ax_K (am_wr M 447 i v) := ax_Kw hK (by
  have : i = 15 ∨ i = 16 ∨ i = 17 ∨ i = 18 ∨ i = 19 ∨ i = 20 ∨ i = 21 ∨ i = 22 ∨ i = 25 ∨ i = 28 ∨ i = 29 ∨ i = 30 ∨ i = 36 := by unfold mcl at h; omega
  rcases this with rfl | rfl | rfl | rfl | rfl | rfl | rfl | rfl | rfl | rfl | rfl | rfl | rfl <;> rfl)
theorem m_wa {M : am_M} {x i v : Int} (hK : ax_K M) (h1 : 459 ≤ x) (h2 : x ≤ 469) : ax_K (am_wr M x i v) := ax_Kwa (k := 20) hK (by
  have : x = 459 ∨ x = 460 ∨ x = 461 ∨ x = 462 ∨ x = 463 ∨ x = 464 ∨ x = 465 ∨ x = 466 ∨ x = 467 ∨ x = 468 ∨ x = 469 := by omega
  rcases this with rfl | rfl | rfl | rfl | rfl | rfl | rfl | rfl | rfl | rfl | rfl <;> rfl) fun _ => rfl
