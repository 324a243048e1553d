/-! both readers, a value -/
def sAt (j : Nat) (w : List cd) (s : PS) : PS := .mk j s.st s.op s.nk s.fs s.ws (w ++ s.cs) s.nc s.kd s.po s.na s.nb s.nd
def cAt (j : Nat) (w : List cd) (c : CS) : CS := .mk j c.law (w ++ c.cs) c.lf c.lt c.kd c.nm c.nl
section
variable (N0 : am_M) (T : Nat) (S I P Q : Int → Int) (d : Nat) (K N : Int → Int)
def pre (n : Nat) (o : Int) (c : CS) (s : PS) : Prop := (1 ≤ n ∧ (n : Int) + o = 9 ∧ 0 ≤ o) ∧ (s.st = 1 ∧ s.op = o) ∧ (c.at_ = s.j ∧ s.j < T ∧ c.law = s.nk) ∧ (c.cs.length ≤ c.at_ ∧ s.cs.length + s.ws.length + s.fs.length ≤ s.j + 3 ∧ s.fs.length + n ≤ 14 ∧ s.ws.length + 2 * n ≤ 30) ∧ (∃ z ∈ s.fs, z.1 ≠ 7 ∧ z.1 ≠ 8) ∧ ∀ z ∈ s.ws, z.2 ≤ (s.fs.length : Int)
def R1 (n : Nat) (o : Int) (c : CS) (s : PS) : Prop := match cOne K N P T n o c with
  | .error e => GoE N0 T S I P Q d s (e.1, e.2, s.nc)
  | .ok c' => ∃ j w, c' = cAt j w c ∧ c.at_ < j ∧ j < T ∧ w.length + c.at_ ≤ j ∧ Go N0 T S I P Q d s (sOne (sAt j w s)) ∧ ∀ ts, ts.length + 3 * n ≤ 58 → lx_T s.nk ts w.reverse = some (false :: ts)
/-- a sum, in frames that hold it -/
def preS (n : Nat) (o : Int) (c : CS) (s : PS) : Prop := pre T n o c s ∧ (∃ z l, s.fs = z :: l ∧ z.1 ≠ 7 ∧ z.1 ≠ 8) ∧ s.ws.length + 2 * n + 2 ≤ 30 ∧ ∀ z ∈ s.ws, z.2 ≠ (s.fs.length : Int)
def RS (n : Nat) (o : Int) (c : CS) (s : PS) : Prop := match cSum K T (cOne K N P T n o) c with
  | .error e => GoE N0 T S I P Q d s (e.1, e.2, s.nc)
  | .ok c' => ∃ j w s', c' = cAt j w c ∧ c.at_ < j ∧ j < T ∧ w.length + c.at_ ≤ j ∧ ¬ (33 ≤ K j ∧ K j ≤ 36) ∧ Go N0 T S I P Q d s s' ∧ s'.st = 2 ∧ s'.j = j ∧ s'.fs = s.fs ∧ okS s' ∧ sWk 3 s' = sAt j w (sSt 2 s) ∧ ∀ ts, ts.length + 3 * n ≤ 55 → lx_T s.nk ts w.reverse = some (false :: ts)
end
theorem oneL_ne : ∀ {fs : List (Int × Int)} {cs : List cd} {o : Int}, (∃ z ∈ fs, z.1 ≠ 7 ∧ z.1 ≠ 8) → (oneL fs cs o).1 ≠ [] := by
  intro fs
  induction fs with
  | nil => intro cs o h; obtain ⟨z, hz, _⟩ := h; cases hz
  | cons x fs ih =>
    intro cs o h
    obtain ⟨k, z⟩ := x
    obtain ⟨y, hy, h7, h8⟩ := h
    unfold oneL
    by_cases k7 : k = 7
    · rw [if_pos k7]
      refine ih ⟨y, ?_, h7, h8⟩
      rcases List.mem_cons.mp hy with e | e
      · rw [e] at h7; exact absurd k7 h7
      · exact e
    · rw [if_neg k7]
      by_cases k8 : k = 8
      · rw [if_pos k8]
        refine ih ⟨y, ?_, h7, h8⟩
        rcases List.mem_cons.mp hy with e | e
        · rw [e] at h8; exact absurd k8 h8
        · exact e
      · rw [if_neg k8]; exact List.cons_ne_nil _ _
theorem lx_T_app {k : Int} : ∀ (a b : List cd) (ts : List Bool), lx_T k ts (a ++ b) = (lx_T k ts a).bind fun ts' => lx_T k ts' b := by
  intro a
  induction a with
  | nil => intro b ts; rfl
  | cons x a ih =>
    intro b ts
    show (lx_t k ts x).bind (fun ts' => lx_T k ts' (a ++ b)) = ((lx_t k ts x).bind fun ts' => lx_T k ts' a).bind _
    cases lx_t k ts x with
    | none => rfl
    | some t => exact ih b t
theorem lx_T1 {k : Int} {x : cd} {ts : List Bool} : lx_T k ts [x] = lx_t k ts x := by
  show (lx_t k ts x).bind (fun ts' => some ts') = _
  cases lx_t k ts x <;> rfl
theorem may_lx {v k : Int} (h : 0 ≤ v ∧ v ≤ 8) (m : mayN v k ≠ 0) : lx_may k v = true := by
  unfold mayN at m
  unfold lx_may
  simp only [Bool.and_eq_true, Bool.or_eq_true, decide_eq_true_eq]
  refine ⟨h.1, ?_⟩
  split at m
  · omega
  · split at m
    · split at m
      · omega
      · split at m <;> omega
    · split at m
      · split at m <;> omega
      · split at m <;> omega
section
variable {N0 : am_M} {T : Nat} {S I P Q : Int → Int} {d : Nat} {K N : Int → Int} {M : am_M} {s : PS} {c : CS} {n : Nat} {o : Int}
theorem okS_pre (h : pre T n o c s) (T2 : T ≤ 301) : okS s := by
  obtain ⟨⟨h1, h2, h2o⟩, ⟨h3, h4⟩, ⟨h5, h6, h7⟩, ⟨h8, h9, h10, h11⟩, h12, h13⟩ := h
  exact ⟨by omega, by omega, by omega, by omega, by omega⟩
theorem D_val (nx : NX N0 T S I P Q d) (hT : ∀ j : Nat, j < T → S j ≠ 0 → j + 1 < T) (T2 : T ≤ 301) (C : ∀ j : Nat, j < T → cor (K j) (N j) (S j) (I j)) (h : pre T (n + 1) o c s) (hk : K c.at_ = 42 ∨ (12 ≤ K c.at_ ∧ K c.at_ ≤ 20) ∨ ¬ (K c.at_ = 37 ∨ K c.at_ = 24 ∨ K c.at_ = 34)) : R1 N0 T S I P Q d K N (n + 1) o c s := by
  have ok := okS_pre h T2
  obtain ⟨⟨h1, h2, h2o⟩, ⟨h3, h4⟩, ⟨h5, h6, h7⟩, ⟨h8, h9, h10, h11⟩, h12, h13⟩ := h
  have cc := C s.j h6
  rw [h5] at hk
  have hw := cor_wrd cc
  unfold R1
  unfold cOne
  rw [h5]
  by_cases k42 : K s.j = 42
  · have sn := (cor_num cc).mp k42
    have lim := cor_lim cc k42
    rw [if_pos k42]
    by_cases q : N s.j ≤ 9999
    · rw [if_pos q]
      have iv := lim.2.1 q
      have hl := hT s.j h6 (by omega)
      refine ⟨s.j + 1, [(400, N s.j)], ?_, by omega, hl, by show 1 + s.j ≤ s.j + 1; omega, ?_, fun ts ht => ?_⟩
      · unfold cPush
        rw [if_pos (by omega)]
        show CS.mk (c.at_ + 1) _ _ _ _ _ _ _ = _
        rw [h5]; rfl
      · have g := g1_num nx h3 hw sn (by omega) ok (oneL_ne h12) hl
        rw [iv] at g
        exact g
      · rw [List.reverse_singleton, lx_T1]
        unfold lx_t
        rw [if_pos rfl, if_pos ⟨lim.2.2, q, by omega⟩]
    · rw [if_neg q]
      show GoE N0 T S I P Q d s (2, P c.at_, s.nc)
      rw [h5]
      exact g1_big h3 hw sn (by omega)
  · rw [if_neg k42]
    have sn : S s.j ≠ 2 := fun z => k42 ((cor_num cc).mpr z)
    by_cases kn : 12 ≤ K s.j ∧ K s.j ≤ 20
    · have nm := (cor_name cc).mp kn
      have iv := cor_nm cc kn
      have mm := nm_may (l := s.nk) kn
      rw [if_pos kn, h7]
      by_cases q : nmL s.nk (K s.j) = 0
      · rw [if_pos q]
        show GoE N0 T S I P Q d s (5, P c.at_, s.nc)
        rw [h5]
        exact g1_nmE h3 hw nm (by rw [iv, ← mm]; exact q)
      · rw [if_neg q]
        have hl := hT s.j h6 (by omega)
        refine ⟨s.j + 1, [(401, K s.j - 12)], ?_, by omega, hl, by show 1 + s.j ≤ s.j + 1; omega, ?_, fun ts ht => ?_⟩
        · unfold cPush
          rw [if_pos (by omega)]
          show CS.mk (c.at_ + 1) _ _ _ _ _ _ _ = _
          rw [h5]; rfl
        · have g := g1_name nx h3 hw nm (by rw [iv, ← mm]; exact q) ok (oneL_ne h12) hl
          rw [iv] at g
          exact g
        · rw [List.reverse_singleton, lx_T1]
          unfold lx_t
          rw [if_neg (show ¬ (401 : Int) = 400 by decide), if_pos rfl, if_pos ⟨may_lx (by omega) (by rw [← mm]; exact q), by omega⟩]
    · have nn : ¬ (S s.j = 1 ∧ 19 < I s.j) := fun z => kn ((cor_name cc).mpr z)
      have ks : ¬ (K s.j = 37 ∨ K s.j = 24 ∨ K s.j = 34) := by omega
      rw [if_neg kn, if_neg ks]
      show GoE N0 T S I P Q d s (1, P c.at_, s.nc)
      rw [h5]
      refine g1_err h3 hw sn nn ?_
      unfold opn
      rw [if_neg fun z => ks (Or.inl ((cor_sign cc (w := 37) (by omega) (by decide)).mp z)), if_neg fun z => ks (Or.inr (Or.inr ((cor_sign cc (w := 34) (by omega) (by decide)).mp z))), if_neg fun z => ks (Or.inr (Or.inl ((cor_word cc (w := 24) (by omega) (by decide)).mp z)))]
end
