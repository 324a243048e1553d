/-! both readers, what is opened -/
section
variable {N0 : am_M} {T : Nat} {S I P Q : Int → Int} {d : Nat} {K N : Int → Int} {M : am_M} {s : PS} {c : CS} {n : Nat} {o : Int}
theorem pre_open (h : pre T (n + 1) o c s) (o8 : o < 8) (hl : s.j + 1 < T) (k : Int) : pre T n (o + 1) (cAdv c) (sOpen k s) := by
  obtain ⟨⟨h1, h2, h2o⟩, ⟨h3, h4⟩, ⟨h5, h6, h7⟩, ⟨h8, h9, h10, h11⟩, ⟨z, hz, hz2⟩, h13⟩ := h
  refine ⟨⟨by omega, by omega, by omega⟩, ⟨h3, ?_⟩, ⟨?_, hl, h7⟩, ⟨?_, ?_, ?_, ?_⟩, ⟨z, List.mem_cons_of_mem _ hz, hz2⟩, fun y hy => ?_⟩
  · show s.op + 1 = o + 1; omega
  · show c.at_ + 1 = s.j + 1; omega
  · show c.cs.length ≤ c.at_ + 1; omega
  · show s.cs.length + s.ws.length + (s.fs.length + 1) ≤ s.j + 1 + 3; omega
  · show s.fs.length + 1 + n ≤ 14; omega
  · show s.ws.length + 2 * n ≤ 30; omega
  · have := h13 y hy
    show y.2 ≤ ((s.fs.length + 1 : Nat) : Int); omega
theorem one_78 {j : Nat} {w : List cd} {k a : Int} (h : (k = 7 ∧ a = 402) ∨ (k = 8 ∧ a = 403)) : sOne (sAt j w (sOpen k s)) = sOne (sAt j ((a, 0) :: w) s) := by
  have e : oneL ((k, 0) :: s.fs) (w ++ s.cs) (s.op + 1) = oneL s.fs ((a, 0) :: (w ++ s.cs)) s.op := by
    have q : s.op + 1 - 1 = s.op := by omega
    rcases h with ⟨rfl, rfl⟩ | ⟨rfl, rfl⟩
    · show (if (7 : Int) = 7 then _ else _) = _
      rw [if_pos rfl, q]
    · show (if (8 : Int) = 7 then _ else if (8 : Int) = 8 then _ else _) = _
      rw [if_neg (by decide), if_pos rfl, q]
  unfold sOne
  show sSt 2 (sOp (oneL ((k, 0) :: s.fs) (w ++ s.cs) (s.op + 1)).2.2 (sCs (oneL ((k, 0) :: s.fs) (w ++ s.cs) (s.op + 1)).2.1 (sFs (oneL ((k, 0) :: s.fs) (w ++ s.cs) (s.op + 1)).1 _))) = sSt 2 (sOp (oneL s.fs ((a, 0) :: (w ++ s.cs)) s.op).2.2 (sCs (oneL s.fs ((a, 0) :: (w ++ s.cs)) s.op).2.1 (sFs (oneL s.fs ((a, 0) :: (w ++ s.cs)) s.op).1 _)))
  rw [e]
  rfl
theorem sOne_c {a b : PS} (h1 : a.fs = b.fs) (h2 : a.cs = b.cs) (h3 : a.op = b.op) (h4 : ∀ x y z, sSt 2 (sOp x (sCs y (sFs z a))) = sSt 2 (sOp x (sCs y (sFs z b)))) : sOne a = sOne b := by
  unfold sOne
  rw [h1, h2, h3]
  exact h4 _ _ _
theorem one_6 {j : Nat} {w : List cd} : sOne (sJ (sOp s.op (sFs s.fs (sAt j w (sSt 2 (sOpen 6 s)))))) = sOne (sAt (j + 1) w s) := sOne_c rfl rfl rfl fun _ _ _ => rfl
theorem D_turn (nx : NX N0 T S I P Q d) (hT : ∀ j : Nat, j < T → S j ≠ 0 → j + 1 < T) (T2 : T ≤ 301) (C : ∀ j : Nat, j < T → cor (K j) (N j) (S j) (I j)) (hO : ∀ o c s, pre T n o c s → R1 N0 T S I P Q d K N n o c s) (h : pre T (n + 1) o c s) (hk : K c.at_ = 24 ∨ K c.at_ = 34) : R1 N0 T S I P Q d K N (n + 1) o c s := by
  have ok := okS_pre h T2
  have hp := h
  obtain ⟨⟨h1, h2, h2o⟩, ⟨h3, h4⟩, ⟨h5, h6, h7⟩, ⟨h8, h9, h10, h11⟩, h12, h13⟩ := h
  have cc := C s.j h6
  rw [h5] at hk
  have hw := cor_wrd cc
  have sn : S s.j ≠ 2 := fun z => by have := (cor_num cc).mpr z; omega
  have s0 : S s.j ≠ 0 := fun z => by have := (cor_end cc).mpr z; omega
  have nn : ¬ (S s.j = 1 ∧ 19 < I s.j) := fun z => by have := (cor_name cc).mpr z; omega
  have hl := hT s.j h6 s0
  have op : (K s.j = 34 ∧ opn S I s.j = 7) ∨ (K s.j = 24 ∧ opn S I s.j = 8) := by
    have a1 := cor_sign cc (w := 37) (v := 40) (by omega) (by decide)
    have a2 := cor_sign cc (w := 34) (v := 45) (by omega) (by decide)
    have a3 := cor_word cc (w := 24) (v := 19) (by omega) (by decide)
    unfold opn
    rw [if_neg fun z => by have := a1.mp z; omega]
    rcases hk with q | q
    · rw [if_neg fun z => by have := a2.mp z; omega, if_pos (a3.mpr q)]; exact Or.inr ⟨q, rfl⟩
    · rw [if_pos (a2.mpr q)]; exact Or.inl ⟨q, rfl⟩
  unfold R1
  unfold cOne
  rw [h5, if_neg (by omega), if_neg (by omega), if_pos (by omega)]
  by_cases o8 : o < 8
  · rw [if_pos o8, if_neg (by omega)]
    have g := g1_open nx h3 hw sn nn (by omega) ok (by omega) hl
    have r := hO (o + 1) (cAdv c) (sOpen (opn S I s.j) s) (pre_open hp o8 hl _)
    unfold R1 at r
    cases hc : cOne K N P T n (o + 1) (cAdv c) with
    | error e =>
      rw [hc] at r
      exact GoE_tr g r
    | ok c' =>
      rw [hc] at r
      obtain ⟨j, w, e1, l1, l2, l3, g2, ty⟩ := r
      have l1 : c.at_ + 1 < j := l1
      have l3 : w.length + (c.at_ + 1) ≤ j := l3
      have ty : ∀ ts, ts.length + 3 * n ≤ 58 → lx_T s.nk ts w.reverse = some (false :: ts) := ty
      have push : ∀ z : cd, cPush z c' = cAt j (z :: w) c := fun z => by
        unfold cPush
        have : c'.cs.length = w.length + c.cs.length := by rw [e1]; show (w ++ c.cs).length = _; rw [List.length_append]
        rw [if_pos (by omega), e1]
        rfl
      have fin : ∀ (a : Int), (a = 402 ∨ a = 403) → ∀ ts : List Bool, ts.length + 3 * (n + 1) ≤ 58 → lx_T s.nk ts (((a, 0) :: w).reverse) = some (false :: ts) := fun a ha ts ht => by
        rw [List.reverse_cons, lx_T_app, ty ts (by omega), Option.bind_some, lx_T1]
        rcases ha with rfl | rfl <;> rfl
      show ∃ j w, cPush (if K s.j = 24 then (403, 0) else (402, 0)) c' = cAt j w c ∧ _
      rcases op with ⟨k1, k2⟩ | ⟨k1, k2⟩
      · rw [if_neg (by omega)]
        refine ⟨j, (402, 0) :: w, push _, by omega, l2, by show w.length + 1 + s.j ≤ j; omega, ?_, fin 402 (Or.inl rfl)⟩
        rw [k2] at g g2
        rw [one_78 (Or.inl ⟨rfl, rfl⟩)] at g2
        exact Go_tr g g2
      · rw [if_pos k1]
        refine ⟨j, (403, 0) :: w, push _, by omega, l2, by show w.length + 1 + s.j ≤ j; omega, ?_, fin 403 (Or.inr rfl)⟩
        rw [k2] at g g2
        rw [one_78 (Or.inr ⟨rfl, rfl⟩)] at g2
        exact Go_tr g g2
  · rw [if_neg o8]
    show GoE N0 T S I P Q d s (3, P c.at_, s.nc)
    rw [h5]
    exact g1_opnE h3 hw sn nn (by omega) (by omega)
theorem D_paren (nx : NX N0 T S I P Q d) (hT : ∀ j : Nat, j < T → S j ≠ 0 → j + 1 < T) (T2 : T ≤ 301) (C : ∀ j : Nat, j < T → cor (K j) (N j) (S j) (I j)) (hS : ∀ o c s, preS T n o c s → RS N0 T S I P Q d K N n o c s) (h : pre T (n + 1) o c s) (hk : K c.at_ = 37) : R1 N0 T S I P Q d K N (n + 1) o c s := by
  have ok := okS_pre h T2
  have hp := h
  obtain ⟨⟨h1, h2, h2o⟩, ⟨h3, h4⟩, ⟨h5, h6, h7⟩, ⟨h8, h9, h10, h11⟩, h12, h13⟩ := h
  have cc := C s.j h6
  rw [h5] at hk
  have hw := cor_wrd cc
  have sn : S s.j ≠ 2 := fun z => by have := (cor_num cc).mpr z; omega
  have s0 : S s.j ≠ 0 := fun z => by have := (cor_end cc).mpr z; omega
  have nn : ¬ (S s.j = 1 ∧ 19 < I s.j) := fun z => by have := (cor_name cc).mpr z; omega
  have hl := hT s.j h6 s0
  have op : opn S I s.j = 6 := by
    unfold opn
    rw [if_pos ((cor_sign cc (w := 37) (by omega) (by decide)).mpr hk)]
  unfold R1
  unfold cOne
  rw [h5, if_neg (by omega), if_neg (by omega), if_pos (by omega)]
  by_cases o8 : o < 8
  · rw [if_pos o8, if_pos hk]
    have g := g1_open nx h3 hw sn nn (by omega) ok (by omega) hl
    rw [op] at g
    have r := hS (o + 1) (cAdv c) (sOpen 6 s) ⟨pre_open hp o8 hl _, ⟨(6, 0), s.fs, rfl, by decide, by decide⟩, by show s.ws.length + 2 * n + 2 ≤ 30; omega, fun z hz => by have := h13 z hz; show z.2 ≠ ((s.fs.length + 1 : Nat) : Int); omega⟩
    unfold RS at r
    cases hc : cSum K T (cOne K N P T n (o + 1)) (cAdv c) with
    | error e =>
      rw [hc] at r
      exact GoE_tr g r
    | ok c' =>
      rw [hc] at r
      obtain ⟨j, w, s', e1, l1, l2, l3, na, g2, st, sj, sf, ok', wk, ty⟩ := r
      have l1 : c.at_ + 1 < j := l1
      have l3 : w.length + (c.at_ + 1) ≤ j := l3
      have sf : s'.fs = (6, 0) :: s.fs := sf
      have cj := C j l2
      have at' : c'.at_ = j := by rw [e1]; rfl
      have nc' : s'.nc = s.nc := by
        have : (sWk 3 s').nc = s.nc := by rw [wk]; rfl
        exact this
      have op' : s'.op = s.op + 1 := by
        have : (sWk 3 s').op = s.op + 1 := by rw [wk]; rfl
        exact this
      show (match cExp K P 38 c' with
        | .error e => GoE N0 T S I P Q d s (e.1, e.2, s.nc)
        | .ok c' => ∃ j w, c' = cAt j w c ∧ s.j < j ∧ j < T ∧ w.length + s.j ≤ j ∧ Go N0 T S I P Q d s (sOne (sAt j w s)) ∧ ∀ ts, ts.length + 3 * (n + 1) ≤ 58 → lx_T s.nk ts w.reverse = some (false :: ts))
      unfold cExp
      rw [at']
      by_cases q : K j = 38
      · rw [if_pos q]
        have sg := (cor_sign cj (w := 38) (v := 41) (by omega) (by decide)).mpr q
        have hl2 := hT j l2 (by omega)
        have g3 := g2_close nx st (by rw [sj]; exact sg) sf ok' (oneL_ne h12) (by rw [sj]; exact hl2)
        refine ⟨j + 1, w, ?_, by omega, hl2, by omega, ?_, fun ts ht => ty ts (by omega)⟩
        · rw [e1]; rfl
        · rw [wk, op', show s.op + 1 - 1 = s.op by omega, one_6] at g3
          exact Go_tr g (Go_tr g2 g3)
      · rw [if_neg q]
        show GoE N0 T S I P Q d s (1, P c'.at_, s.nc)
        rw [at']
        have ng : ¬ (S j = 3 ∧ I j = 41) := fun z => q ((cor_sign cj (w := 38) (v := 41) (by omega) (by decide)).mp z)
        have g3 := g2_err (N0 := N0) (T := T) (Q := Q) (P := P) (d := d) (S := S) (I := I) st (fun z => na ((cor_ari cj).mp (by rw [sj] at z; exact z))) sf (fun _ => by rw [sj]; exact ng) (fun z => absurd z (by show ¬ (6 : Int) = 4; decide)) (by show ¬ (6 : Int) = 5; decide) (fun z => absurd z (by show ¬ (6 : Int) = 1; decide)) ok'
        rw [sj, nc'] at g3
        exact GoE_tr g (GoE_tr g2 g3)
  · rw [if_neg o8]
    show GoE N0 T S I P Q d s (3, P c.at_, s.nc)
    rw [h5]
    exact g1_opnE h3 hw sn nn (by omega) (by omega)
end
