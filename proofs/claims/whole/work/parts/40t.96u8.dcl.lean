/-! both readers, a clause that is a law -/
def cBL (k : Int) (c : CS) : CS := .mk (c.at_ + 1) k c.cs (up c.lf k (c.cs.length : Int)) c.lt (up c.kd (c.nl : Int) k) c.nm (c.nl + 1)
def cFL (j : Nat) (w : List cd) (k : Int) (c : CS) : CS := .mk (j + 1) k (w ++ c.cs) (up c.lf k (c.cs.length : Int)) (up c.lt k ((w ++ c.cs).length : Int)) (up c.kd (c.nl : Int) k) c.nm (c.nl + 1)
def sBL (st f k : Int) (s : PS) : PS := .mk (s.j + 1) st s.op k [(f, 0)] s.ws s.cs s.nc (up s.kd (s.nc : Int) k) (up s.po (s.nc : Int) (s.cs.length : Int)) s.na s.nb s.nd
def sFL (j : Nat) (w : List cd) (k : Int) (s : PS) : PS := .mk (j + 1) 4 s.op k [] s.ws ((408, 0) :: (w ++ s.cs)) (s.nc + 1) (up s.kd (s.nc : Int) k) (up s.po (s.nc : Int) (s.cs.length : Int)) s.na s.nb s.nd
theorem cBL_eq {k : Int} {c : CS} (k4 : k < 4) (n24 : c.nl < 24) : cBeg k (cLaw k (cAdv (cCls k c))) = cBL k c := by
  unfold cCls
  rw [if_pos n24]
  unfold cBeg
  rw [if_pos k4]
  rfl
theorem cFL_eq {k : Int} {c : CS} (k4 : k < 4) {j : Nat} {w : List cd} : cAdv (cEnd k (cAt j w (cBL k c))) = cFL j w k c := by
  unfold cEnd
  rw [if_pos k4]
  rfl
theorem sBL_eq {st f k : Int} {s : PS} : sSt st (sFs [(f, 0)] (sBeg k s)) = sBL st f k s := rfl
theorem sFL_eq {st f k x : Int} {s s2 : PS} {j : Nat} {w : List cd} (h : sWk 1 s2 = sAt j w (sSt x (sBL st f k s))) : sOver s2 = sFL j w k s := by
  unfold sOver
  rw [h]
  rfl
theorem wkL_31 {n : Int} : ∀ (ws : List (Int × Int)) (cs cs' : List cd), wkL 3 n ws cs = ([], cs') → wkL 1 n ws cs = ([], cs') := by
  intro ws
  induction ws with
  | nil => intro cs cs' h; exact h
  | cons z ws ih =>
    intro cs cs' h
    obtain ⟨g, l⟩ := z
    change (if l = n then (if rk g < 3 then ((g, l) :: ws, cs) else wkL 3 n ws ((g, 0) :: cs)) else ((g, l) :: ws, cs)) = ([], cs') at h
    show (if l = n then (if rk g < 1 then ((g, l) :: ws, cs) else wkL 1 n ws ((g, 0) :: cs)) else ((g, l) :: ws, cs)) = ([], cs')
    by_cases q : l = n
    · rw [if_pos q] at h ⊢
      by_cases p : rk g < 3
      · rw [if_pos p] at h; cases h
      · rw [if_neg p] at h
        rw [if_neg (by omega)]
        exact ih _ _ h
    · rw [if_neg q] at h; cases h
theorem sWk_31 {s s' : PS} {j : Nat} {w : List cd} (h : sWk 3 s' = sAt j w s) (hw : s.ws = []) : sWk 1 s' = sAt j w s := by
  have e1 : (sWk 3 s').ws = [] := by rw [h]; exact hw
  have e2 : (wkL 3 s'.fs.length s'.ws s'.cs).1 = [] := e1
  have e3 : wkL 1 s'.fs.length s'.ws s'.cs = wkL 3 s'.fs.length s'.ws s'.cs := by
    have e4 : wkL 3 s'.fs.length s'.ws s'.cs = ([], (wkL 3 s'.fs.length s'.ws s'.cs).2) := by rw [← e2]
    rw [wkL_31 _ _ _ e4]
    exact e4.symm
  rw [← h]
  unfold sWk
  rw [e3]
section
variable (N0 : am_M) (T : Nat) (S I P Q : Int → Int) (d : Nat) (K : Int → Int)
/-- what a clause, or all, comes to, from M on -/
def RC (c : CS) (M : am_M) (x : CX) : Prop := match x with
  | .error e => ∃ n M', PN N0 (e.1, e.2, n) M' ∧ Ex45 d M = Ex45 d M'
  | .ok c' => ∃ s' cl' M', XS T c' s' cl' ∧ c.at_ < c'.at_ ∧ PM N0 T S I P Q s' M' ∧ Ex45 d M = Ex45 d M'
end
section
variable {N0 : am_M} {T : Nat} {S I P Q : Int → Int} {d : Nat} {K N : Int → Int} {M : am_M} {s s0 s1 : PS} {c : CS} {n : Nat} {o : Int} {x : CX} {cl : List xcl}
theorem RC_e {e : Int × Int} {n : Nat} (g : GoE N0 T S I P Q d s (e.1, e.2, n)) (h : PM N0 T S I P Q s M) : RC N0 T S I P Q d c M (.error e) := by
  obtain ⟨M', a, b⟩ := g M h
  exact ⟨n, M', a, b⟩
theorem RC_o {c' : CS} {s' : PS} {cl' : List xcl} (g : Go N0 T S I P Q d s s') (h : PM N0 T S I P Q s M) (hx : XS T c' s' cl') (hl : c.at_ < c'.at_) : RC N0 T S I P Q d c M (.ok c') := by
  obtain ⟨M', a, b⟩ := g M h
  exact ⟨s', cl', M', hx, hl, a, b⟩
theorem XS_law (h : XS T c s cl) {k : Int} (k0 : 0 ≤ k) (k3 : k ≤ 3) (nt : ∀ (i : Nat) (hi : i < cl.length), cl[i].1 ≠ k) (n24 : cl.length < 24) {j : Nat} {w : List cd} (hj : j + 1 < T) (hl : w.length + (c.at_ + 1) ≤ j) (ty : lx_T k [] w.reverse = some [decide (k = 0)]) : XS T (cFL j w k c) (sFL j w k s) (cl ++ [(k, 0, 0, 0, w.reverse)]) := by
  have h0 := h
  obtain ⟨⟨a1, a2, a3, a4⟩, ⟨a5, a6⟩, ⟨a7, a8⟩, ⟨b4, b5⟩, b6, b7, b8⟩ := h
  refine XS_add (w := w) (w' := (408, 0) :: w) h0 n24 ?_ (fun _ => nt) ⟨rfl, a2, rfl, a4⟩ ⟨rfl, hj⟩ ⟨?_, ?_⟩ ⟨rfl, rfl⟩ ⟨rfl, rfl⟩ (fun i hi => ?_) (fun i hi => rfl) (fun k' hk' => ?_) ?_ (fun _ => ?_)
  · exact ⟨⟨k0, show k ≤ 11 by omega⟩, fun _ => ty, fun z => by have z : 4 ≤ k := z; omega, fun z => by have z : k = 11 := z; omega, fun z => by have z : k = 4 ∨ k = 5 ∨ k = 7 ∨ k = 8 := z; omega, fun z => by have z : k = 9 := z; omega, fun z => by have z : k = 4 ∨ k = 5 := z; omega⟩
  · show (w ++ c.cs).length ≤ j + 1
    rw [List.length_append]; omega
  · show (w ++ s.cs).length + 1 ≤ j + 1
    rw [List.length_append]; omega
  · refine ⟨up_ne (by omega), up_ne (by omega), rfl, rfl, rfl, up_ne (by omega)⟩
  · exact ⟨up_ne hk', up_ne hk'⟩
  · refine ⟨⟨?_, ?_⟩, fun z => by have z : 4 ≤ k := z; omega, fun z => by have z : k = 4 ∨ k = 5 ∨ k = 7 ∨ k = 8 ∨ k = 9 := z; omega, fun z => by have z : k = 4 ∨ k = 5 := z; omega, fun _ => ⟨[], s.cs, ?_, ?_⟩⟩
    · show up c.kd (c.nl : Int) k (cl.length : Int) = k
      rw [← b4]; exact up_eq
    · show up s.kd (s.nc : Int) k (cl.length : Int) = k
      rw [← b5]; exact up_eq
    · show (408, 0) :: (w ++ s.cs) = [] ++ ((408, 0) :: (w.reverse.reverse ++ s.cs))
      rw [List.reverse_reverse]; rfl
    · show up s.po (s.nc : Int) (s.cs.length : Int) (cl.length : Int) = _
      rw [← b5]; exact up_eq
  · refine ⟨[], c.cs, ?_, up_eq, ?_⟩
    · show w ++ c.cs = [] ++ (w.reverse.reverse ++ c.cs)
      rw [List.reverse_reverse]; rfl
    · show up c.lt k ((w ++ c.cs).length : Int) k = up c.lf k (c.cs.length : Int) k + (w.reverse.length : Int)
      rw [up_eq, up_eq, List.length_append, List.length_reverse]; omega
theorem D_law (nx : NX N0 T S I P Q d) (hT : ∀ j : Nat, j < T → S j ≠ 0 → j + 1 < T) (T2 : T ≤ 301) (C : ∀ j : Nat, j < T → cor (K j) (N j) (S j) (I j)) (h : XS T c s cl) (hM : PM N0 T S I P Q s M) (k3 : 0 ≤ K s.j ∧ K s.j ≤ 3) (nt : ∀ (i : Nat) (hi : i < cl.length), cl[i].1 ≠ K s.j) (n24 : cl.length < 24) : RC N0 T S I P Q d c M (cClause1 K N P T (K s.j) c) := by
  have h0 := h
  obtain ⟨⟨a1, a2, a3, a4⟩, ⟨a5, a6⟩, ⟨a7, a8⟩, ⟨b4, b5⟩, b6, b7, b8⟩ := h
  have cc := C s.j a6
  have hk : S s.j = 1 ∧ I s.j = K s.j := by
    have q := cor_w cc (by omega) (by omega)
    have := wd_v (k := K s.j) (by omega) (by omega)
    exact ⟨q.1, by omega⟩
  have hl := hT s.j a6 (by rw [hk.1]; decide)
  have tl : ¬ toldL s (I s.j) := by
    rw [hk.2]
    intro z
    obtain ⟨_, i, hi, e⟩ := (XS_told h0 k3.1).2.mp z
    exact nt i hi e
  have g1 := g4_law nx a1 ⟨hk.1, by omega⟩ tl (by omega) a3 hl
  rw [hk.2] at g1
  unfold cClause1
  rw [cBL_eq (by omega) (by omega)]
  generalize hkk : K s.j = k at *
  by_cases z : k = 0
  · subst z
    rw [if_pos rfl, if_pos rfl, sBL_eq] at g1
    have p : preE T (cBL 0 c) (sBL 0 2 0 s) := ⟨⟨rfl, a2⟩, ⟨by show c.at_ + 1 = s.j + 1; omega, hl, rfl⟩, ⟨by show c.cs.length ≤ c.at_ + 1; omega, by show s.cs.length ≤ s.j + 1; omega⟩, ⟨0, rfl⟩, a4⟩
    have r := D_either nx hT T2 C p
    have eb : cBody K N P T 0 (cBL 0 c) = cEither K N P T (cBL 0 c) := by unfold cBody; rw [if_pos rfl]
    rw [eb]
    cases hc : cEither K N P T (cBL 0 c) with
    | error e =>
      rw [hc] at r
      exact RC_e (GoE_tr g1 r) hM
    | ok c2 =>
      rw [hc] at r
      obtain ⟨j, w, s2, e1, l1, l2, l3, na, g2, st2, sj2, sf2, ok2, wk2, ty⟩ := r
      have l1 : c.at_ + 1 < j := l1
      have l3 : w.length + (c.at_ + 1) ≤ j := l3
      have sf2 : s2.fs = (2, 0) :: [] := sf2
      have nc2 : s2.nc = s.nc := by
        have : (sWk 1 s2).nc = s.nc := by rw [wk2]; rfl
        exact this
      have cj := C j l2
      have ea : (cEnd 0 c2).at_ = j := by rw [e1]; rfl
      show RC N0 T S I P Q d c M (cExp K P 39 (cEnd 0 c2))
      unfold cExp
      rw [ea]
      by_cases q : K j = 39
      · rw [if_pos q]
        have sg := (cor_sign cj (w := 39) (v := 59) (by omega) (by decide)).mpr q
        have hl2 := hT j l2 (by rw [sg.1]; decide)
        have g3 := g3_over nx st2 (by rw [sj2]; exact sg) sf2 ok2 (by omega) (by rw [sj2]; exact hl2)
        rw [sFL_eq wk2] at g3
        rw [e1, cFL_eq (by decide)]
        exact RC_o (Go_tr g1 (Go_tr g2 g3)) hM (XS_law h0 (by decide) (by decide) nt n24 hl2 l3 ty) (by show c.at_ < j + 1; omega)
      · rw [if_neg q]
        show RC N0 T S I P Q d c M (.error (1, P (((cEnd 0 c2).at_ : Nat) : Int)))
        rw [ea]
        have g3 := g3_err (N0 := N0) (T := T) (S := S) (I := I) (P := P) (Q := Q) (d := d) st2 (fun y => by rw [sj2] at y; exact na (Or.inl ((cor_word cj (w := 21) (v := 16) (by omega) (by decide)).mp y))) (fun y => by rw [sj2] at y; exact na (Or.inr ((cor_word cj (w := 22) (v := 17) (by omega) (by decide)).mp y))) (fun y => by rw [sj2] at y; exact q ((cor_sign cj (w := 39) (v := 59) (by omega) (by decide)).mp y)) sf2 ok2
        rw [sj2] at g3
        exact RC_e (e := (1, P j)) (GoE_tr g1 (GoE_tr g2 g3)) hM
  · rw [if_neg z, if_neg z, sBL_eq] at g1
    have p : preS T 9 0 (cBL k c) (sBL 1 1 k s) := by
      refine ⟨⟨⟨by omega, by omega, by omega⟩, ⟨rfl, a2⟩, ⟨by show c.at_ + 1 = s.j + 1; omega, hl, rfl⟩, ⟨by show c.cs.length ≤ c.at_ + 1; omega, ?_, by show 1 + 9 ≤ 14; omega, ?_⟩, ⟨(1, 0), List.mem_cons_self, by decide, by decide⟩, fun y hy => ?_⟩, ⟨(1, 0), [], rfl, by decide, by decide⟩, ?_, fun y hy => ?_⟩
      · show s.cs.length + s.ws.length + 1 ≤ s.j + 1 + 3
        rw [a4]; show s.cs.length + 0 + 1 ≤ _; omega
      · show s.ws.length + 2 * 9 ≤ 30
        rw [a4]; decide
      · have hy : y ∈ s.ws := hy
        rw [a4] at hy; cases hy
      · show s.ws.length + 2 * 9 + 2 ≤ 30
        rw [a4]; decide
      · have hy : y ∈ s.ws := hy
        rw [a4] at hy; cases hy
    have r := D_sumN (n := 0) nx hT T2 C p
    have eb : cBody K N P T k (cBL k c) = cSumN K N P T 0 (cBL k c) := by unfold cBody; rw [if_neg z, if_pos (by omega)]
    rw [eb]
    cases hc : cSumN K N P T 0 (cBL k c) with
    | error e =>
      rw [hc] at r
      exact RC_e (GoE_tr g1 r) hM
    | ok c2 =>
      rw [hc] at r
      obtain ⟨j, w, s2, e1, l1, l2, l3, na, g2, st2, sj2, sf2, ok2, wk2, ty⟩ := r
      have l1 : c.at_ + 1 < j := l1
      have l3 : w.length + (c.at_ + 1) ≤ j := l3
      have sf2 : s2.fs = (1, 0) :: [] := sf2
      have nc2 : s2.nc = s.nc := by
        have : (sWk 3 s2).nc = s.nc := by rw [wk2]; rfl
        exact this
      have wk1 := sWk_31 wk2 a4
      have cj := C j l2
      have ea : (cEnd k c2).at_ = j := by rw [e1]; unfold cEnd; rw [if_pos (by omega)]; rfl
      have ty : lx_T k [] w.reverse = some [decide (k = 0)] := by
        rw [show decide (k = 0) = false from decide_eq_false z]
        exact ty [] (by decide)
      show RC N0 T S I P Q d c M (cExp K P 39 (cEnd k c2))
      unfold cExp
      rw [ea]
      by_cases q : K j = 39
      · rw [if_pos q]
        have sg := (cor_sign cj (w := 39) (v := 59) (by omega) (by decide)).mpr q
        have hl2 := hT j l2 (by rw [sg.1]; decide)
        have g3 := g2_over nx st2 (by rw [sj2]; exact sg) sf2 ok2 (by omega) (by rw [sj2]; exact hl2)
        rw [sFL_eq wk1] at g3
        rw [e1, cFL_eq (by omega)]
        exact RC_o (Go_tr g1 (Go_tr g2 g3)) hM (XS_law h0 (by omega) (by omega) nt n24 hl2 l3 ty) (by show c.at_ < j + 1; omega)
      · rw [if_neg q]
        show RC N0 T S I P Q d c M (.error (1, P (((cEnd k c2).at_ : Nat) : Int)))
        rw [ea]
        have g3 := g2_err (N0 := N0) (T := T) (S := S) (I := I) (P := P) (Q := Q) (d := d) st2 (fun y => na ((cor_ari cj).mp (by rw [sj2] at y; exact y))) sf2 (fun y => absurd y (show ¬ (1 : Int) = 6 by decide)) (fun y => absurd y (show ¬ (1 : Int) = 4 by decide)) (show (1 : Int) ≠ 5 by decide) (fun _ y => by rw [sj2] at y; exact q ((cor_sign cj (w := 39) (v := 59) (by omega) (by decide)).mp y)) ok2
        rw [sj2] at g3
        exact RC_e (e := (1, P j)) (GoE_tr g1 (GoE_tr g2 g3)) hM
end
