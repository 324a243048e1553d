/-! both readers, an ask -/
def rep : Nat → List cd → List cd
  | 0, w => w
  | n + 1, w => rep n ((405, 0) :: w)
theorem rep_app {v : List cd} : ∀ (n : Nat) (w : List cd), rep n (w ++ v) = rep n w ++ v := by
  intro n
  induction n with
  | zero => intro w; rfl
  | succ n ih => intro w; exact ih ((405, 0) :: w)
theorem rep_len : ∀ (n : Nat) (w : List cd), (rep n w).length = n + w.length := by
  intro n
  induction n with
  | zero => intro w; show w.length = 0 + w.length; omega
  | succ n ih =>
    intro w
    show (rep n ((405, 0) :: w)).length = _
    rw [ih, List.length_cons]; omega
theorem rep_ty {k : Int} {ts tb : List Bool} : ∀ (n : Nat) (w : List cd), lx_T k ts w.reverse = some (true :: tb) → lx_T k ts (rep n w).reverse = some (true :: tb) := by
  intro n
  induction n with
  | zero => intro w h; exact h
  | succ n ih =>
    intro w h
    refine ih _ ?_
    rw [List.reverse_cons, lx_T_app, h, Option.bind_some, lx_T1]
    rfl
theorem rep_ask {z : Int} : ∀ (n : Nat) (cs : List cd) (o : Int), askL (List.replicate n (3, 0) ++ [(2, z)]) cs o = ([(2, z)], rep n cs, o - n) := by
  intro n
  induction n with
  | zero =>
    intro cs o
    show (if (2 : Int) = 3 then _ else _) = _
    rw [if_neg (by decide), show o - ((0 : Nat) : Int) = o by omega]
    rfl
  | succ n ih =>
    intro cs o
    show (if (3 : Int) = 3 then askL (List.replicate n (3, 0) ++ [(2, z)]) ((405, 0) :: cs) (o - 1) else _) = _
    rw [if_pos rfl, ih, show o - 1 - (n : Int) = o - ((n + 1 : Nat) : Int) by omega]
    rfl
theorem cPushN_at {j : Nat} {c : CS} : ∀ (n : Nat) (w : List cd), w.length + n + c.cs.length ≤ 300 → cPushN n (cAt j w c) = cAt j (rep n w) c := by
  intro n
  induction n with
  | zero => intro w h; rfl
  | succ n ih =>
    intro w h
    show cPushN n (cPush (405, 0) (cAt j w c)) = _
    rw [cPush_at (by omega), ih _ (by show w.length + 1 + n + _ ≤ _; omega)]
    rfl
theorem ty_cmp {k o : Int} {ts : List Bool} (h : o = 60 ∨ o = 62 ∨ o = 61 ∨ o = 35 ∨ o = 300 ∨ o = 301) : lx_t k (false :: false :: ts) (o, 0) = some (true :: ts) := by
  rcases h with rfl | rfl | rfl | rfl | rfl | rfl <;> rfl
/-- within an ask: n nots, and the frame u -/
def sQ (n j : Nat) (st : Int) (u : Int × Int) (w : List cd) (s : PS) : PS := .mk j st n s.nk (u :: (List.replicate n (3, 0) ++ s.fs)) s.ws (w ++ s.cs) s.nc s.kd s.po s.na s.nb s.nd
def sNs (n : Nat) (s : PS) : PS := .mk (s.j + n) s.st n s.nk (List.replicate n (3, 0) ++ s.fs) s.ws s.cs s.nc s.kd s.po s.na s.nb s.nd
def cNs (n : Nat) (c : CS) : CS := cAt (c.at_ + n) [] c
section
variable (N0 : am_M) (T : Nat) (S I P Q : Int → Int) (d : Nat) (K : Int → Int)
def preA (c : CS) (s : PS) : Prop := (s.st = 0 ∧ s.op = 0) ∧ (c.at_ = s.j ∧ s.j < T ∧ c.law = s.nk) ∧ (c.cs.length ≤ c.at_ ∧ s.cs.length + s.ws.length ≤ s.j + 1) ∧ (∃ z, s.fs = [(2, z)]) ∧ s.ws.length ≤ 2 ∧ ∀ z ∈ s.ws, z.2 ≤ 1
/-- what an ask comes to, from s0 on, over s -/
def RA (c : CS) (s s0 : PS) (x : CX) : Prop := match x with
  | .error e => GoE N0 T S I P Q d s0 (e.1, e.2, s.nc)
  | .ok c' => ∃ j w, c' = cAt j w c ∧ c.at_ < j ∧ j < T ∧ w.length + c.at_ ≤ j ∧ Go N0 T S I P Q d s0 (sSt 3 (sAt j w s)) ∧ ∀ ts, ts.length ≤ 27 → lx_T s.nk ts w.reverse = some (true :: ts)
end
section
variable {N0 : am_M} {T : Nat} {S I P Q : Int → Int} {d : Nat} {K N : Int → Int} {M : am_M} {s s0 s1 : PS} {c : CS} {n : Nat} {o : Int} {x : CX}
theorem RA_tr (g : Go N0 T S I P Q d s1 s0) (h : RA N0 T S I P Q d c s s0 x) : RA N0 T S I P Q d c s s1 x := by
  cases x with
  | error e => exact GoE_tr g h
  | ok c' =>
    obtain ⟨j, w, a1, a2, a3, a4, a5, a6⟩ := h
    exact ⟨j, w, a1, a2, a3, a4, Go_tr g a5, a6⟩
theorem okS_ns (h : preA T c s) (T2 : T ≤ 301) (n8 : n ≤ 8) : okS (sNs n s) := by
  obtain ⟨⟨h1, h2⟩, ⟨h3, h4, h5⟩, ⟨h6, h7⟩, ⟨z, hf⟩, h9, h10⟩ := h
  have e : (List.replicate n ((3 : Int), (0 : Int)) ++ s.fs).length = n + 1 := by rw [List.length_append, List.length_replicate, hf]; rfl
  refine ⟨?_, ?_, ?_, ?_, ?_⟩
  · show s.cs.length + s.ws.length + (List.replicate n ((3 : Int), (0 : Int)) ++ s.fs).length ≤ 390
    rw [e]; omega
  · show (List.replicate n ((3 : Int), (0 : Int)) ++ s.fs).length ≤ 30
    rw [e]; omega
  · show s.ws.length ≤ 70; omega
  · show (0 : Int) ≤ (n : Int); omega
  · show (n : Int) ≤ 8; omega
theorem preS_sQ (h : preA T c s) (n8 : n ≤ 8) {j : Nat} {u : Int × Int} (u7 : u.1 ≠ 7 ∧ u.1 ≠ 8) {w : List cd} (hj : j < T) (hl : w.length + n + c.at_ ≤ j) : preS T (9 - n) n (cAt j w c) (sQ n j 1 u w s) := by
  obtain ⟨⟨h1, h2⟩, ⟨h3, h4, h5⟩, ⟨h6, h7⟩, ⟨z, hf⟩, h9, h10⟩ := h
  have e : (u :: (List.replicate n ((3 : Int), (0 : Int)) ++ s.fs)).length = n + 2 := by rw [List.length_cons, List.length_append, List.length_replicate, hf]; rfl
  refine ⟨⟨⟨by omega, by omega, by omega⟩, ⟨rfl, rfl⟩, ⟨rfl, hj, h5⟩, ⟨?_, ?_, ?_, ?_⟩, ⟨u, List.mem_cons_self, u7⟩, fun y hy => ?_⟩, ⟨u, _, rfl, u7⟩, ?_, fun y hy => ?_⟩
  · show (w ++ c.cs).length ≤ j
    rw [List.length_append]; omega
  · show (w ++ s.cs).length + s.ws.length + (u :: (List.replicate n ((3 : Int), (0 : Int)) ++ s.fs)).length ≤ j + 3
    rw [List.length_append, e]; omega
  · show (u :: (List.replicate n ((3 : Int), (0 : Int)) ++ s.fs)).length + (9 - n) ≤ 14
    rw [e]; omega
  · show s.ws.length + 2 * (9 - n) ≤ 30; omega
  · show y.2 ≤ (((u :: (List.replicate n ((3 : Int), (0 : Int)) ++ s.fs)).length : Nat) : Int)
    rw [e]
    have := h10 y hy
    omega
  · show s.ws.length + 2 * (9 - n) + 2 ≤ 30; omega
  · show y.2 ≠ (((u :: (List.replicate n ((3 : Int), (0 : Int)) ++ s.fs)).length : Nat) : Int)
    rw [e]
    have := h10 y hy
    omega
theorem D_nots (nx : NX N0 T S I P Q d) (hT : ∀ j : Nat, j < T → S j ≠ 0 → j + 1 < T) (T2 : T ≤ 301) (C : ∀ j : Nat, j < T → cor (K j) (N j) (S j) (I j)) (h : preA T c s) : ∀ (m n : Nat), n + m = 8 → s.j + n < T → ∃ n', cNots K m n (cNs n c) = (n', cNs n' c) ∧ n' ≤ 8 ∧ s.j + n' < T ∧ Go N0 T S I P Q d (sNs n s) (sNs n' s) ∧ (n' < 8 → K ((s.j + n' : Nat) : Int) ≠ 23) := by
  have h3 : c.at_ = s.j := h.2.1.1
  have h1 : s.st = 0 := h.1.1
  intro m
  induction m with
  | zero =>
    intro n hn hj
    exact ⟨n, rfl, by omega, hj, Go_rf, fun q => by omega⟩
  | succ m ih =>
    intro n hn hj
    have e : cNots K (m + 1) n (cNs n c) = if K ((s.j + n : Nat) : Int) = 23 then cNots K m (n + 1) (cNs (n + 1) c) else (n, cNs n c) := by
      rw [← h3]; rfl
    rw [e]
    have cc := C (s.j + n) hj
    by_cases k : K ((s.j + n : Nat) : Int) = 23
    · rw [if_pos k]
      have hk := (cor_word cc (w := 23) (v := 18) (by omega) (by decide)).mpr k
      have hl := hT (s.j + n) hj (by rw [hk.1]; decide)
      have g := g0_not nx (s := sNs n s) h1 hk (okS_ns h T2 (by omega)) (by show (n : Int) < 8; omega) hl
      obtain ⟨n', e2, a1, a2, a3, a4⟩ := ih (n + 1) (by omega) hl
      refine ⟨n', e2, a1, a2, Go_tr ?_ a3, a4⟩
      exact g
    · rw [if_neg k]
      exact ⟨n, rfl, by omega, hj, Go_rf, fun _ => k⟩
theorem D_ask (nx : NX N0 T S I P Q d) (hT : ∀ j : Nat, j < T → S j ≠ 0 → j + 1 < T) (T2 : T ≤ 301) (C : ∀ j : Nat, j < T → cor (K j) (N j) (S j) (I j)) (h : preA T c s) : RA N0 T S I P Q d c s s (cAsk K N P T c) := by
  have hA := h
  obtain ⟨⟨h1, h2⟩, ⟨h3, h4, h5⟩, ⟨h6, h7⟩, ⟨z, hf⟩, h9, h10⟩ := h
  obtain ⟨n, e, n8, hn, g1, kn⟩ := D_nots nx hT T2 C hA 8 0 (by omega) (by omega)
  have e0 : sNs 0 s = s := by
    unfold sNs
    rw [show (((0 : Nat) : Int)) = s.op from h2.symm]
    rfl
  rw [e0] at g1
  have ec : cAsk K N P T c = cAsk1 K N P T (n, cNs n c) := by
    show cAsk1 K N P T (cNots K 8 0 c) = _
    rw [← e]; rfl
  rw [ec]
  have cc := C (s.j + n) hn
  have ea : (cNs n c).at_ = s.j + n := by show c.at_ + n = s.j + n; omega
  show RA N0 T S I P Q d c s s (if K (((cNs n c).at_ : Nat) : Int) = 23 then cErr P 3 (cNs n c) else cAsk2 K N P T n (cNs n c))
  rw [ea]
  by_cases k : K ((s.j + n : Nat) : Int) = 23
  · rw [if_pos k]
    show GoE N0 T S I P Q d s (3, P (((cNs n c).at_ : Nat) : Int), s.nc)
    rw [ea]
    have hk := (cor_word cc (w := 23) (v := 18) (by omega) (by decide)).mpr k
    have n88 : n = 8 := by
      rcases Nat.lt_or_ge n 8 with q | q
      · exact absurd k (kn q)
      · omega
    exact GoE_tr g1 (g0_err (s := sNs n s) h1 hk (by show (n : Int) = 8; omega))
  · rw [if_neg k]
    have hk : ¬ (S ((s.j + n : Nat) : Int) = 1 ∧ I ((s.j + n : Nat) : Int) = 18) := fun q => k ((cor_word cc (w := 23) (v := 18) (by omega) (by decide)).mp q)
    have g2 : Go N0 T S I P Q d (sNs n s) (sQ n (s.j + n) 1 (4, 0) [] s) := g0_go (s := sNs n s) h1 hk (okS_ns hA T2 n8)
    have p1 : preS T (9 - n) n (cNs n c) (sQ n (s.j + n) 1 (4, 0) [] s) := by
      have := preS_sQ hA n8 (j := s.j + n) (u := (4, 0)) (w := []) ⟨by decide, by decide⟩ hn (by show 0 + n + _ ≤ _; omega)
      rw [← h3] at this ⊢
      exact this
    have r := D_sumN nx hT T2 C p1
    refine RA_tr (Go_tr g1 g2) ?_
    unfold cAsk2
    cases hc : cSumN K N P T n (cNs n c) with
    | error e =>
      rw [hc] at r
      exact r
    | ok c1 =>
      rw [hc] at r
      obtain ⟨j1, w1, s1, e1, l1, l2, l3, na, g3, st1, sj1, sf1, ok1, wk1, ty1⟩ := r
      have l1 : c.at_ + n < j1 := l1
      have l3 : w1.length + (c.at_ + n) ≤ j1 := l3
      have sf1 : s1.fs = (4, 0) :: (List.replicate n (3, 0) ++ s.fs) := sf1
      have e1 : c1 = cAt j1 w1 c := by rw [e1]; unfold cNs; rw [cAt_at, List.append_nil]
      have ty1 : ∀ ts, ts.length + 3 * (9 - n) ≤ 55 → lx_T s.nk ts w1.reverse = some (false :: ts) := ty1
      have cj := C j1 l2
      have nc1 : s1.nc = s.nc := by
        have : (sWk 3 s1).nc = s.nc := by rw [wk1]; rfl
        exact this
      show RA N0 T S I P Q d c s (sQ n (s.j + n) 1 (4, 0) [] s) (if (29 ≤ K c1.at_ ∧ K c1.at_ ≤ 32) ∨ K c1.at_ = 40 ∨ K c1.at_ = 41 then (cSumN K N P T n (cAdv c1)).bind fun c2 => .ok (cPushN n (cPush (sgn (K c1.at_), 0) c2)) else cErr P 1 c1)
      have ea1 : c1.at_ = j1 := by rw [e1]; rfl
      rw [ea1]
      by_cases q : (29 ≤ K j1 ∧ K j1 ≤ 32) ∨ K j1 = 40 ∨ K j1 = 41
      · rw [if_pos q]
        have hq := (cor_cmp cj).mpr q
        have iv : I j1 = sgn (K j1) := by
          have := (cor_s cj (by omega) (by omega)).2
          rw [this, sgn_sg2 (by omega)]
        have hl := hT j1 l2 (by rw [hq.1]; decide)
        have g4 := g2_cmp nx st1 (by rw [sj1]; exact hq) sf1 ok1 (by rw [sj1]; exact hl)
        rw [wk1, sj1, iv] at g4
        have g4 : Go N0 T S I P Q d s1 (sQ n (j1 + 1) 1 (5, sgn (K j1)) w1 s) := g4
        have p2 := preS_sQ hA n8 (j := j1 + 1) (u := (5, sgn (K j1))) (w := w1) ⟨show (5 : Int) ≠ 7 by decide, show (5 : Int) ≠ 8 by decide⟩ hl (by omega)
        have r2 := D_sumN nx hT T2 C p2
        have ev : cAdv c1 = cAt (j1 + 1) w1 c := by rw [e1]; rfl
        rw [ev]
        refine RA_tr (Go_tr g3 g4) ?_
        cases hc2 : cSumN K N P T n (cAt (j1 + 1) w1 c) with
        | error e =>
          rw [hc2] at r2
          exact r2
        | ok c2 =>
          rw [hc2] at r2
          obtain ⟨j2, w2, s2, e2, m1, m2, m3, nb, g5, st2, sj2, sf2, ok2, wk2, ty2⟩ := r2
          have m1 : j1 + 1 < j2 := m1
          have m3 : w2.length + (j1 + 1) ≤ j2 := m3
          have sf2 : s2.fs = (5, sgn (K j1)) :: (List.replicate n (3, 0) ++ s.fs) := sf2
          rw [cAt_at] at e2
          have ty2 : ∀ ts, ts.length + 3 * (9 - n) ≤ 55 → lx_T s.nk ts w2.reverse = some (false :: ts) := ty2
          have cj2 := C j2 m2
          have al : ∀ cs o, askL (List.replicate n (3, 0) ++ s.fs) cs o = ([(2, z)], rep n cs, o - n) := fun cs o => by rw [hf]; exact rep_ask n cs o
          have g6 := g2_ask (N0 := N0) (T := T) (S := S) (I := I) (P := P) (Q := Q) (d := d) st2 (fun y => nb ((cor_ari cj2).mp (by rw [sj2] at y; exact y))) sf2 ok2 (by rw [al]; exact List.cons_ne_nil _ _)
          rw [wk2] at g6
          have fin : sAsk (sCs ((sgn (K j1), 0) :: (sAt j2 w2 (sSt 2 (sQ n (j1 + 1) 1 (5, sgn (K j1)) w1 s))).cs) (sFs (List.replicate n (3, 0) ++ s.fs) (sAt j2 w2 (sSt 2 (sQ n (j1 + 1) 1 (5, sgn (K j1)) w1 s))))) = sSt 3 (sAt j2 (rep n ((sgn (K j1), 0) :: (w2 ++ w1))) s) := by
            unfold sAsk
            have ax : askL (List.replicate n (3, 0) ++ s.fs) ((sgn (K j1), 0) :: (w2 ++ (w1 ++ s.cs))) (n : Int) = (s.fs, rep n ((sgn (K j1), 0) :: (w2 ++ w1)) ++ s.cs, s.op) := by
              rw [al, hf, h2, ← rep_app, show (n : Int) - (n : Int) = 0 by omega, List.cons_append, List.append_assoc]
            show PS.mk j2 3 (askL (List.replicate n (3, 0) ++ s.fs) ((sgn (K j1), 0) :: (w2 ++ (w1 ++ s.cs))) (n : Int)).2.2 s.nk (askL (List.replicate n (3, 0) ++ s.fs) ((sgn (K j1), 0) :: (w2 ++ (w1 ++ s.cs))) (n : Int)).1 s.ws (askL (List.replicate n (3, 0) ++ s.fs) ((sgn (K j1), 0) :: (w2 ++ (w1 ++ s.cs))) (n : Int)).2.1 s.nc s.kd s.po s.na s.nb s.nd = _
            rw [ax]
            rfl
          rw [fin] at g6
          have lw : (w2 ++ w1).length = w2.length + w1.length := List.length_append
          have hgv : sgn (K j1) = 60 ∨ sgn (K j1) = 62 ∨ sgn (K j1) = 61 ∨ sgn (K j1) = 35 ∨ sgn (K j1) = 300 ∨ sgn (K j1) = 301 := by
            have : K j1 = 29 ∨ K j1 = 30 ∨ K j1 = 31 ∨ K j1 = 32 ∨ K j1 = 40 ∨ K j1 = 41 := by omega
            rcases this with p | p | p | p | p | p <;> rw [p] <;> decide
          refine ⟨j2, rep n ((sgn (K j1), 0) :: (w2 ++ w1)), ?_, by omega, m2, ?_, Go_tr g5 g6, fun ts ht => ?_⟩
          · show cPushN n (cPush (sgn (K j1), 0) c2) = _
            rw [e2, cPush_at (by rw [lw]; omega), cPushN_at n _ (by rw [List.length_cons, lw]; omega)]
          · rw [rep_len, List.length_cons, lw]; omega
          · refine rep_ty n _ ?_
            rw [List.reverse_cons, List.reverse_append, lx_T_app, lx_T_app, ty1 ts (by omega), Option.bind_some, ty2 _ (by show ts.length + 1 + _ ≤ _; omega), Option.bind_some, lx_T1]
            exact ty_cmp hgv
      · rw [if_neg q]
        show GoE N0 T S I P Q d _ (1, P (c1.at_ : Int), s.nc)
        rw [ea1]
        have ng : ¬ (S j1 = 3 ∧ isQ (I j1) ≠ 0) := fun y => q ((cor_cmp cj).mp y)
        have g4 := g2_err (N0 := N0) (T := T) (S := S) (I := I) (P := P) (Q := Q) (d := d) st1 (fun y => na ((cor_ari cj).mp (by rw [sj1] at y; exact y))) sf1 (fun y => absurd y (show ¬ (4 : Int) = 6 by decide)) (fun _ => by rw [sj1]; exact ng) (show (4 : Int) ≠ 5 by decide) (fun y => absurd y (show ¬ (4 : Int) = 1 by decide)) ok1
        rw [sj1, nc1] at g4
        exact GoE_tr g3 g4
end
