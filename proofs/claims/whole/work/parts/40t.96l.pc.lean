/-! TEXT, the developers' side: a reader's state, and its small methods -/
abbrev cd := Int × Int
def CS : Type := Nat × Int × List cd × (Int → Int) × (Int → Int) × (Int → Int) × (Int → Int) × Nat
def CS.mk (at_ : Nat) (law : Int) (cs : List cd) (lf : Int → Int) (lt : Int → Int) (kd : Int → Int) (nm : Int → Int) (nl : Nat) : CS := (at_, law, cs, lf, lt, kd, nm, nl)
def CS.at_ (c : CS) : Nat := c.1
def CS.law (c : CS) : Int := c.2.1
def CS.cs (c : CS) : List cd := c.2.2.1
def CS.lf (c : CS) : Int → Int := c.2.2.2.1
def CS.lt (c : CS) : Int → Int := c.2.2.2.2.1
def CS.kd (c : CS) : Int → Int := c.2.2.2.2.2.1
def CS.nm (c : CS) : Int → Int := c.2.2.2.2.2.2.1
def CS.nl (c : CS) : Nat := c.2.2.2.2.2.2.2
abbrev CX := Except (Int × Int) CS
def tcl (s x i : Int) : Prop := (x = 420 ∧ (i = 4 ∨ i = 5 ∨ i = 8 ∨ i = 9)) ∨ (x = s ∧ (i = 1 ∨ i = 6)) ∨ (s + 1 ≤ x ∧ x ≤ s + 5)
/-- without the place of a fault -/
def tcp (s x i : Int) : Prop := (x = 420 ∧ (i = 4 ∨ i = 5 ∨ i = 8)) ∨ (x = s ∧ (i = 1 ∨ i = 6)) ∨ (s + 1 ≤ x ∧ x ≤ s + 5)
def sxt (s : Int) : Prop := s = 15 ∨ s = 21 ∨ s = 27 ∨ s = 33
def up (f : Int → Int) (i v : Int) : Int → Int := fun j => if j = i then v else f j
def CST (M : am_M) (c : Int) : List cd → Prop
  | [] => True
  | z :: l => am_rd M c (l.length : Int) = lx_enc z ∧ CST M c l
/-- what a reader has found: the tokens -/
def TK (M0 : am_M) (s : Int) (T : Nat) (K N P : Int → Int) : Prop :=
  (sxt s) ∧
  (1 ≤ T) ∧
  (T ≤ 301) ∧
  (am_rd M0 420 3 = (T : Int)) ∧
  (am_rd M0 420 6 = s) ∧
  (∀ j, 0 ≤ j → j < (T : Int) → am_rd M0 421 j = K j) ∧
  (∀ j, 0 ≤ j → j < (T : Int) → am_rd M0 422 j = N j) ∧
  (∀ j, 0 ≤ j → j < (T : Int) → am_rd M0 423 j = P j) ∧
  (∀ j, 0 ≤ j → j < (T : Int) → (K j = 44 ↔ j + 1 = (T : Int)))
theorem TK.sx {M0 : am_M} {s : Int} {T : Nat} {K N P : Int → Int} (h : TK M0 s T K N P) : sxt s := h.1
theorem TK.T1 {M0 : am_M} {s : Int} {T : Nat} {K N P : Int → Int} (h : TK M0 s T K N P) : 1 ≤ T := h.2.1
theorem TK.T2 {M0 : am_M} {s : Int} {T : Nat} {K N P : Int → Int} (h : TK M0 s T K N P) : T ≤ 301 := h.2.2.1
theorem TK.n {M0 : am_M} {s : Int} {T : Nat} {K N P : Int → Int} (h : TK M0 s T K N P) : am_rd M0 420 3 = (T : Int) := h.2.2.2.1
theorem TK.s6 {M0 : am_M} {s : Int} {T : Nat} {K N P : Int → Int} (h : TK M0 s T K N P) : am_rd M0 420 6 = s := h.2.2.2.2.1
theorem TK.k {M0 : am_M} {s : Int} {T : Nat} {K N P : Int → Int} (h : TK M0 s T K N P) : ∀ j, 0 ≤ j → j < (T : Int) → am_rd M0 421 j = K j := h.2.2.2.2.2.1
theorem TK.v {M0 : am_M} {s : Int} {T : Nat} {K N P : Int → Int} (h : TK M0 s T K N P) : ∀ j, 0 ≤ j → j < (T : Int) → am_rd M0 422 j = N j := h.2.2.2.2.2.2.1
theorem TK.p {M0 : am_M} {s : Int} {T : Nat} {K N P : Int → Int} (h : TK M0 s T K N P) : ∀ j, 0 ≤ j → j < (T : Int) → am_rd M0 423 j = P j := h.2.2.2.2.2.2.2.1
theorem TK.e {M0 : am_M} {s : Int} {T : Nat} {K N P : Int → Int} (h : TK M0 s T K N P) : ∀ j, 0 ≤ j → j < (T : Int) → (K j = 44 ↔ j + 1 = (T : Int)) := h.2.2.2.2.2.2.2.2
section
variable (M0 : am_M) (s : Int) (T : Nat)
def PC (c : CS) (M : am_M) : Prop :=
  (ax_K M) ∧
  (∀ x i, ¬ tcp s x i → am_rd M x i = am_rd M0 x i) ∧
  (am_rd M 420 4 = (c.at_ : Int)) ∧
  (c.at_ < T) ∧
  (am_rd M 420 5 = c.law) ∧
  (am_rd M 420 8 = 0) ∧
  (am_rd M s 1 = (c.cs.length : Int)) ∧
  (c.cs.length ≤ 300) ∧
  (CST M (s + 1) c.cs) ∧
  (am_rd M s 6 = (c.nl : Int)) ∧
  (c.nl ≤ 24) ∧
  (∀ k, 0 ≤ k → k < 4 → am_rd M (s + 2) k = c.lf k) ∧
  (∀ k, 0 ≤ k → k < 4 → am_rd M (s + 3) k = c.lt k) ∧
  (∀ k, 0 ≤ k → k < 24 → am_rd M (s + 4) k = c.kd k) ∧
  (∀ k, 0 ≤ k → k < 72 → am_rd M (s + 5) k = c.nm k)
theorem PC.hK {M0 : am_M} {s : Int} {T : Nat} {c : CS} {M : am_M} (h : PC M0 s T c M) : ax_K M := h.1
theorem PC.fr9 {M0 : am_M} {s : Int} {T : Nat} {c : CS} {M : am_M} (h : PC M0 s T c M) : ∀ x i, ¬ tcp s x i → am_rd M x i = am_rd M0 x i := h.2.1
theorem PC.fr {M0 : am_M} {s : Int} {T : Nat} {c : CS} {M : am_M} (h : PC M0 s T c M) : ∀ x i, ¬ tcl s x i → am_rd M x i = am_rd M0 x i := fun x i q => h.2.1 x i fun z => q (by unfold tcp at z; unfold tcl; omega)
theorem PC.at_ {M0 : am_M} {s : Int} {T : Nat} {c : CS} {M : am_M} (h : PC M0 s T c M) : am_rd M 420 4 = (c.at_ : Int) := h.2.2.1
theorem PC.lt {M0 : am_M} {s : Int} {T : Nat} {c : CS} {M : am_M} (h : PC M0 s T c M) : c.at_ < T := h.2.2.2.1
theorem PC.law {M0 : am_M} {s : Int} {T : Nat} {c : CS} {M : am_M} (h : PC M0 s T c M) : am_rd M 420 5 = c.law := h.2.2.2.2.1
theorem PC.ft {M0 : am_M} {s : Int} {T : Nat} {c : CS} {M : am_M} (h : PC M0 s T c M) : am_rd M 420 8 = 0 := h.2.2.2.2.2.1
theorem PC.nc {M0 : am_M} {s : Int} {T : Nat} {c : CS} {M : am_M} (h : PC M0 s T c M) : am_rd M s 1 = (c.cs.length : Int) := h.2.2.2.2.2.2.1
theorem PC.nc3 {M0 : am_M} {s : Int} {T : Nat} {c : CS} {M : am_M} (h : PC M0 s T c M) : c.cs.length ≤ 300 := h.2.2.2.2.2.2.2.1
theorem PC.cs {M0 : am_M} {s : Int} {T : Nat} {c : CS} {M : am_M} (h : PC M0 s T c M) : CST M (s + 1) c.cs := h.2.2.2.2.2.2.2.2.1
theorem PC.nl {M0 : am_M} {s : Int} {T : Nat} {c : CS} {M : am_M} (h : PC M0 s T c M) : am_rd M s 6 = (c.nl : Int) := h.2.2.2.2.2.2.2.2.2.1
theorem PC.nl2 {M0 : am_M} {s : Int} {T : Nat} {c : CS} {M : am_M} (h : PC M0 s T c M) : c.nl ≤ 24 := h.2.2.2.2.2.2.2.2.2.2.1
theorem PC.lf {M0 : am_M} {s : Int} {T : Nat} {c : CS} {M : am_M} (h : PC M0 s T c M) : ∀ k, 0 ≤ k → k < 4 → am_rd M (s + 2) k = c.lf k := h.2.2.2.2.2.2.2.2.2.2.2.1
theorem PC.ll {M0 : am_M} {s : Int} {T : Nat} {c : CS} {M : am_M} (h : PC M0 s T c M) : ∀ k, 0 ≤ k → k < 4 → am_rd M (s + 3) k = c.lt k := h.2.2.2.2.2.2.2.2.2.2.2.2.1
theorem PC.kd {M0 : am_M} {s : Int} {T : Nat} {c : CS} {M : am_M} (h : PC M0 s T c M) : ∀ k, 0 ≤ k → k < 24 → am_rd M (s + 4) k = c.kd k := h.2.2.2.2.2.2.2.2.2.2.2.2.2.1
theorem PC.nm {M0 : am_M} {s : Int} {T : Nat} {c : CS} {M : am_M} (h : PC M0 s T c M) : ∀ k, 0 ≤ k → k < 72 → am_rd M (s + 5) k = c.nm k := h.2.2.2.2.2.2.2.2.2.2.2.2.2.2
def PE (e : Int × Int) (M : am_M) : Prop :=
  (ax_K M) ∧
  (∀ x i, ¬ tcl s x i → am_rd M x i = am_rd M0 x i) ∧
  (am_rd M 420 8 = e.1) ∧
  (e.1 ≠ 0) ∧
  (am_rd M 420 9 = e.2)
theorem PE.hK {M0 : am_M} {s : Int} {e : Int × Int} {M : am_M} (h : PE M0 s e M) : ax_K M := h.1
theorem PE.fr {M0 : am_M} {s : Int} {e : Int × Int} {M : am_M} (h : PE M0 s e M) : ∀ x i, ¬ tcl s x i → am_rd M x i = am_rd M0 x i := h.2.1
theorem PE.ft {M0 : am_M} {s : Int} {e : Int × Int} {M : am_M} (h : PE M0 s e M) : am_rd M 420 8 = e.1 := h.2.2.1
theorem PE.f0 {M0 : am_M} {s : Int} {e : Int × Int} {M : am_M} (h : PE M0 s e M) : e.1 ≠ 0 := h.2.2.2.1
theorem PE.pl {M0 : am_M} {s : Int} {e : Int × Int} {M : am_M} (h : PE M0 s e M) : am_rd M 420 9 = e.2 := h.2.2.2.2
def PX : CX → am_M → Prop
  | .ok c, M => PC M0 s T c M
  | .error e, M => PE M0 s e M
end
theorem sx_o {s : Int} (h : sxt s) : am_ob s 8 = true := by rcases h with rfl | rfl | rfl | rfl <;> rfl
theorem sx_1 {s i : Int} (h : sxt s) : am_ar (s + 1) 20 i = (decide (0 ≤ i) && decide (i < 300)) := by rcases h with rfl | rfl | rfl | rfl <;> rfl
theorem sx_2 {s i : Int} (h : sxt s) : am_ar (s + 2) 20 i = (decide (0 ≤ i) && decide (i < 4)) := by rcases h with rfl | rfl | rfl | rfl <;> rfl
theorem sx_3 {s i : Int} (h : sxt s) : am_ar (s + 3) 20 i = (decide (0 ≤ i) && decide (i < 4)) := by rcases h with rfl | rfl | rfl | rfl <;> rfl
theorem sx_4 {s i : Int} (h : sxt s) : am_ar (s + 4) 20 i = (decide (0 ≤ i) && decide (i < 24)) := by rcases h with rfl | rfl | rfl | rfl <;> rfl
theorem sx_5 {s i : Int} (h : sxt s) : am_ar (s + 5) 20 i = (decide (0 ≤ i) && decide (i < 72)) := by rcases h with rfl | rfl | rfl | rfl <;> rfl
theorem sx_ia {s : Int} (h : sxt s) : am_ia (s + 5) = true := by rcases h with rfl | rfl | rfl | rfl <;> rfl
theorem sx_ln {s : Int} (h : sxt s) : am_ln (s + 5) = 72 := by rcases h with rfl | rfl | rfl | rfl <;> rfl
theorem sx_k0 {s : Int} (h : sxt s) {M : am_M} (hK : ax_K M) : am_rd M s 0 = s + 1 := by rcases h with rfl | rfl | rfl | rfl <;> exact hK.2 _ _ rfl
theorem sx_k2 {s : Int} (h : sxt s) {M : am_M} (hK : ax_K M) : am_rd M s 2 = s + 2 := by rcases h with rfl | rfl | rfl | rfl <;> exact hK.2 _ _ rfl
theorem sx_k3 {s : Int} (h : sxt s) {M : am_M} (hK : ax_K M) : am_rd M s 3 = s + 3 := by rcases h with rfl | rfl | rfl | rfl <;> exact hK.2 _ _ rfl
theorem sx_k4 {s : Int} (h : sxt s) {M : am_M} (hK : ax_K M) : am_rd M s 4 = s + 4 := by rcases h with rfl | rfl | rfl | rfl <;> exact hK.2 _ _ rfl
theorem sx_k5 {s : Int} (h : sxt s) {M : am_M} (hK : ax_K M) : am_rd M s 5 = s + 5 := by rcases h with rfl | rfl | rfl | rfl <;> exact hK.2 _ _ rfl
theorem sx_wf {s : Int} (h : sxt s) {M : am_M} (hK : ax_K M) {i v : Int} (hi : i = 1 ∨ i = 6) : ax_K (am_wr M s i v) := ax_Kw hK (by rcases h with rfl | rfl | rfl | rfl <;> rcases hi with rfl | rfl <;> rfl)
theorem sx_wa {s : Int} (h : sxt s) {M : am_M} (hK : ax_K M) {x i v : Int} (h1 : s + 1 ≤ x) (h2 : x ≤ s + 5) : ax_K (am_wr M x i v) := ax_Kwa (k := 20) hK (by
  have : x = s + 1 ∨ x = s + 2 ∨ x = s + 3 ∨ x = s + 4 ∨ x = s + 5 := by omega
  rcases h with rfl | rfl | rfl | rfl <;> rcases this with rfl | rfl | rfl | rfl | rfl <;> rfl) fun _ => rfl
theorem rd_wr {M : am_M} {f : Int → Int → Prop} {B : am_M} {c i v : Int} (h : ∀ x j, ¬ f x j → am_rd M x j = am_rd B x j) (hf : f c i) : ∀ x j, ¬ f x j → am_rd (am_wr M c i v) x j = am_rd B x j := fun x j hx => by
  rw [ax_rw, if_neg]
  · exact h x j hx
  · rintro ⟨rfl, rfl⟩
    exact hx hf
theorem r_wr {M : am_M} {i v : Int} (hK : ax_K M) (hi : i = 4 ∨ i = 5 ∨ i = 8 ∨ i = 9) : ax_K (am_wr M 420 i v) := ax_Kw hK (by rcases hi with rfl | rfl | rfl | rfl <;> rfl)
theorem CST_congr {M M' : am_M} {c : Int} : ∀ {l : List cd}, CST M c l → (∀ i, 0 ≤ i → i < (l.length : Int) → am_rd M' c i = am_rd M c i) → CST M' c l := by
  intro l
  induction l with
  | nil => intro _ _; trivial
  | cons z l ih =>
    intro h e
    refine ⟨(e _ (by omega) (by rw [List.length_cons]; omega)).trans h.1, ih h.2 fun i i0 i1 => e i i0 (by rw [List.length_cons]; omega)⟩
section
variable {M0 : am_M} {s : Int} {T : Nat} {K N P : Int → Int} {d : Nat} {M : am_M} {c : CS} {x : CX} {e : Int × Int}
theorem PX_K (h : PX M0 s T x M) : ax_K M := by cases x with
  | ok c => exact PC.hK h
  | error e => exact PE.hK h
theorem PX_fr (h : PX M0 s T x M) : ∀ x i, ¬ tcl s x i → am_rd M x i = am_rd M0 x i := by cases x with
  | ok c => exact PC.fr h
  | error e => exact PE.fr h
theorem n420 {i : Int} (t : TK M0 s T K N P) (h : i ≠ 4 ∧ i ≠ 5 ∧ i ≠ 8 ∧ i ≠ 9) : ¬ tcl s 420 i := by
  have := t.sx
  unfold tcl sxt at *
  omega
theorem n42 {y i : Int} (t : TK M0 s T K N P) (h : 421 ≤ y) : ¬ tcl s y i := by
  have := t.sx
  unfold tcl sxt at *
  omega
theorem px_T (t : TK M0 s T K N P) (h : PX M0 s T x M) : am_rd M 420 3 = (T : Int) := (PX_fr h 420 3 (n420 t (by omega))).trans t.n
theorem px_s (t : TK M0 s T K N P) (h : PX M0 s T x M) : am_rd M 420 6 = s := (PX_fr h 420 6 (n420 t (by omega))).trans t.s6
def tk (K : Int → Int) : CX → Int
  | .ok c => K c.at_
  | .error _ => 44
theorem c_43 (t : TK M0 s T K N P) (h : PX M0 s T x M) : am_Call d 43 [(2, 420)] M = some (tk K x, M) := by
  have hK := PX_K h
  have h3 := px_T t h
  have T2 := t.T2
  rw [aq_43]
  cases x with
  | error e =>
    have : am_rd M 420 8 ≠ 0 := by rw [PE.ft h]; exact PE.f0 h
    simp only [ax_o_420, ax_gt, ax_gi, Option.bind_some, ax_gbl, ax_gb2, ax_gd, if_neg this]
    rfl
  | ok c =>
    have l := PC.lt h
    have hk : am_rd M 421 (c.at_ : Int) = K c.at_ := (PX_fr h 421 _ (n42 t (by omega))).trans (t.k _ (by omega) (by omega))
    rw [ax_o_420, ax_gt, if_pos (PC.ft h), PC.at_ h, if_neg (show ¬ (c.at_ : Int) < 0 by omega), h3, if_pos (show (c.at_ : Int) < (T : Int) by omega), kr_420_0 hK, show am_ia 421 = true from rfl, ax_gt, show am_ln 421 = 301 from rfl, if_pos (show (c.at_ : Int) < 301 by omega), ax_a_421, ax_gi (by omega) (by omega), hk]
    rfl
theorem c_45 (t : TK M0 s T K N P) (h : PC M0 s T c M) : am_Call d 45 [(2, 420)] M = some (N c.at_, M) := by
  have hK := h.hK
  have T2 := t.T2
  have l := h.lt
  rw [aq_45]
  have hk : am_rd M 422 (c.at_ : Int) = N c.at_ := (h.fr 422 _ (n42 t (by omega))).trans (t.v _ (by omega) (by omega))
  rw [ax_o_420, ax_gt, h.at_, if_neg (show ¬ (c.at_ : Int) < 0 by omega), kr_420_1 hK, show am_ia 422 = true from rfl, ax_gt, show am_ln 422 = 301 from rfl, if_pos (show (c.at_ : Int) < 301 by omega), ax_a_422, ax_gi (by omega) (by omega), hk]
def cErr (P : Int → Int) (v : Int) (c : CS) : CX := .error (v, P c.at_)
theorem c_44 (t : TK M0 s T K N P) {v : Int} (hv : v ≠ 0) (h : PX M0 s T x M) : ∃ M', am_Call d 44 [(2, 420), (0, v)] M = some (0, M') ∧ PX M0 s T (x.bind (cErr P v)) M' := by
  have hK := PX_K h
  have T2 := t.T2
  rw [aq_44]
  cases x with
  | error e =>
    have : am_rd M 420 8 ≠ 0 := by rw [PE.ft h]; exact PE.f0 h
    simp only [ax_o_420, ax_gt, ax_gi, Option.bind_some, ax_gbl, ax_gb2, ax_gd, if_neg this]
    exact ⟨M, rfl, h⟩
  | ok c =>
    have l := PC.lt h
    have fr := PC.fr h
    have hk : am_rd M 423 (c.at_ : Int) = P c.at_ := (PX_fr h 423 _ (n42 t (by omega))).trans (t.p _ (by omega) (by omega))
    simp only [ax_o_420, ax_gt, ax_gi, Option.bind_some, ax_gbl, ax_gb2, ax_gd, if_pos (PC.ft h), PC.at_ h, if_neg (show ¬ (c.at_ : Int) < 0 by omega), kr_420_2 hK, show am_ia 423 = true from rfl, show am_ln 423 = 301 from rfl, if_pos (show (c.at_ : Int) < 301 by omega), am_let]
    have hK1 : ax_K (am_wr M 420 8 v) := ax_Kw hK rfl
    rw [kr_420_2 hK1, show am_rd (am_wr M 420 8 v) 420 4 = (c.at_ : Int) from (ax_wi (by decide)).trans (PC.at_ h), ax_a_423, ax_gi (by omega) (by omega), show am_rd (am_wr M 420 8 v) 423 (c.at_ : Int) = P c.at_ from (ax_wc (by decide)).trans hk]
    exact ⟨_, rfl, ⟨ax_Kw hK1 rfl, rd_wr (rd_wr fr (Or.inl ⟨rfl, by decide⟩)) (Or.inl ⟨rfl, by decide⟩), (ax_wi (by decide)).trans ax_ws, hv, ax_ws⟩⟩
end
