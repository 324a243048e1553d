/-! both readers, asks -/
def adE (w : Int) : Int := if w = 0 then 0 else 407
theorem wkL_2 {g a l : Int} {ws : List (Int × Int)} {cs : List cd} (hg : g = 0 ∨ g = 406) (ha : a = 0 ∨ a = 407) (hw : ∀ z ∈ ws, z.2 ≠ l) : wkL 2 l (pmW g l ++ (pmW a l ++ ws)) cs = (pmW a l ++ ws, pmW g 0 ++ cs) := by
  have st : ∀ cs, wkL 2 l (pmW a l ++ ws) cs = (pmW a l ++ ws, cs) := fun cs => by
    rcases ha with rfl | rfl
    · rw [pmW_0]; exact wkL_stop hw
    · rw [pmW_n (by decide)]; exact wkL_no (by decide)
  rcases hg with rfl | rfl
  · rw [pmW_0, pmW_0]; exact st cs
  · rw [pmW_n (g := 406) (l := l) (by decide), pmW_n (g := 406) (l := 0) (by decide)]; exact (wkL_go (by decide)).trans (st _)
theorem wkL_1 {g a l : Int} {ws : List (Int × Int)} {cs : List cd} (hg : g = 0 ∨ g = 406) (ha : a = 0 ∨ a = 407) (hw : ∀ z ∈ ws, z.2 ≠ l) : wkL 1 l (pmW g l ++ (pmW a l ++ ws)) cs = (ws, pmW a 0 ++ (pmW g 0 ++ cs)) := by
  have st : ∀ cs, wkL 1 l (pmW a l ++ ws) cs = (ws, pmW a 0 ++ cs) := fun cs => by
    rcases ha with rfl | rfl
    · rw [pmW_0, pmW_0]; exact wkL_stop hw
    · rw [pmW_n (g := 407) (l := l) (by decide), pmW_n (g := 407) (l := 0) (by decide)]; exact (wkL_go (by decide)).trans (wkL_stop hw)
  rcases hg with rfl | rfl
  · rw [pmW_0, pmW_0]; exact st cs
  · rw [pmW_n (g := 406) (l := l) (by decide), pmW_n (g := 406) (l := 0) (by decide)]; exact (wkL_go (by decide)).trans (st _)
theorem cFinE_at {wt : Int} {j : Nat} {w : List cd} {c : CS} (hw : wt = 0 ∨ wt = 1) (h : (pmW wt 0).length + w.length + c.cs.length ≤ 300) : cFinE wt (cAt j w c) = cAt j (pmW (adE wt) 0 ++ w) c := by
  rcases hw with rfl | rfl
  · rfl
  · have h : 1 + w.length + c.cs.length ≤ 300 := h
    show cPush (407, 0) (cAt j w c) = _
    rw [cPush_at (by omega)]
    rfl
theorem adE_len {w l l' : Int} (h : w = 0 ∨ w = 1) : (pmW (adE w) l).length = (pmW w l').length := by
  rcases h with rfl | rfl <;> rfl
theorem adE_v {w : Int} (h : w = 0 ∨ w = 1) : adE w = 0 ∨ adE w = 407 := by
  rcases h with rfl | rfl
  · exact Or.inl rfl
  · exact Or.inr rfl
theorem sM_wk1 {j : Nat} {g a st : Int} {wm : List cd} {s : PS} (hg : g = 0 ∨ g = 406) (ha : a = 0 ∨ a = 407) (hw : ∀ z ∈ s.ws, z.2 ≠ (s.fs.length : Int)) : sWk 1 (sM j st g a wm s) = sAt j (pmW a 0 ++ (pmW g 0 ++ wm)) (sSt st s) := by
  unfold sWk
  show sCs (wkL 1 (s.fs.length : Int) (pmW g (s.fs.length : Int) ++ (pmW a (s.fs.length : Int) ++ s.ws)) (wm ++ s.cs)).2 (sWs (wkL 1 (s.fs.length : Int) (pmW g (s.fs.length : Int) ++ (pmW a (s.fs.length : Int) ++ s.ws)) (wm ++ s.cs)).1 (sM j st g a wm s)) = _
  rw [wkL_1 hg ha hw]
  show PS.mk j st s.op s.nk s.fs s.ws (pmW a 0 ++ (pmW g 0 ++ (wm ++ s.cs))) s.nc s.kd s.po s.na s.nb s.nd = PS.mk j st s.op s.nk s.fs s.ws ((pmW a 0 ++ (pmW g 0 ++ wm)) ++ s.cs) s.nc s.kd s.po s.na s.nb s.nd
  rw [List.append_assoc, List.append_assoc]
theorem sM_and {j : Nat} {g a : Int} {wm : List cd} {s : PS} (hg : g = 0 ∨ g = 406) (ha : a = 0 ∨ a = 407) (hw : ∀ z ∈ s.ws, z.2 ≠ (s.fs.length : Int)) : sSt 0 (sWt 406 (sM j 3 g a wm s)) = sM (j + 1) 0 406 a (pmW g 0 ++ wm) s := by
  have e : sWk (rk 406) (sM j 3 g a wm s) = sCs (pmW g 0 ++ (wm ++ s.cs)) (sWs (pmW a (s.fs.length : Int) ++ s.ws) (sM j 3 g a wm s)) := by
    rw [show rk 406 = 2 from rfl]
    unfold sWk
    show sCs (wkL 2 (s.fs.length : Int) (pmW g (s.fs.length : Int) ++ (pmW a (s.fs.length : Int) ++ s.ws)) (wm ++ s.cs)).2 (sWs (wkL 2 (s.fs.length : Int) (pmW g (s.fs.length : Int) ++ (pmW a (s.fs.length : Int) ++ s.ws)) (wm ++ s.cs)).1 (sM j 3 g a wm s)) = _
    rw [wkL_2 hg ha hw]
  unfold sWt
  rw [e]
  show PS.mk (j + 1) 0 s.op s.nk s.fs ((406, (s.fs.length : Int)) :: (pmW a (s.fs.length : Int) ++ s.ws)) (pmW g 0 ++ (wm ++ s.cs)) s.nc s.kd s.po s.na s.nb s.nd = PS.mk (j + 1) 0 s.op s.nk s.fs (pmW 406 (s.fs.length : Int) ++ (pmW a (s.fs.length : Int) ++ s.ws)) ((pmW g 0 ++ wm) ++ s.cs) s.nc s.kd s.po s.na s.nb s.nd
  rw [List.append_assoc, pmW_n (g := 406) (by decide)]
  rfl
theorem sM_or {j : Nat} {g a : Int} {wm : List cd} {s : PS} (hg : g = 0 ∨ g = 406) (ha : a = 0 ∨ a = 407) (hw : ∀ z ∈ s.ws, z.2 ≠ (s.fs.length : Int)) : sSt 0 (sWt 407 (sM j 3 g a wm s)) = sM (j + 1) 0 0 407 (pmW a 0 ++ (pmW g 0 ++ wm)) s := by
  have e : sWk (rk 407) (sM j 3 g a wm s) = sAt j (pmW a 0 ++ (pmW g 0 ++ wm)) (sSt 3 s) := by
    rw [show rk 407 = 1 from rfl]
    exact sM_wk1 hg ha hw
  unfold sWt
  rw [e]
  show PS.mk (j + 1) 0 s.op s.nk s.fs ((407, (s.fs.length : Int)) :: s.ws) ((pmW a 0 ++ (pmW g 0 ++ wm)) ++ s.cs) s.nc s.kd s.po s.na s.nb s.nd = PS.mk (j + 1) 0 s.op s.nk s.fs (pmW 0 (s.fs.length : Int) ++ (pmW 407 (s.fs.length : Int) ++ s.ws)) ((pmW a 0 ++ (pmW g 0 ++ wm)) ++ s.cs) s.nc s.kd s.po s.na s.nb s.nd
  rw [pmW_0, pmW_n (g := 407) (by decide)]
  rfl
theorem ty_ei {k o : Int} {ts : List Bool} (h : o = 406 ∨ o = 407) : lx_t k (true :: true :: ts) (o, 0) = some (true :: ts) := by
  rcases h with rfl | rfl <;> rfl
theorem sM_ask {j1 j2 : Nat} {st g a : Int} {w1 w2 : List cd} {s : PS} : sSt 3 (sAt j2 w2 (sM j1 st g a w1 s)) = sM j2 3 g a (w2 ++ w1) s := by
  show PS.mk j2 3 s.op s.nk s.fs _ (w2 ++ (w1 ++ s.cs)) s.nc s.kd s.po s.na s.nb s.nd = PS.mk j2 3 s.op s.nk s.fs _ ((w2 ++ w1) ++ s.cs) s.nc s.kd s.po s.na s.nb s.nd
  rw [List.append_assoc]
  rfl
section
variable (N0 : am_M) (T : Nat) (S I P Q : Int → Int) (d : Nat) (K : Int → Int)
def preE (c : CS) (s : PS) : Prop := (s.st = 0 ∧ s.op = 0) ∧ (c.at_ = s.j ∧ s.j < T ∧ c.law = s.nk) ∧ (c.cs.length ≤ c.at_ ∧ s.cs.length ≤ s.j) ∧ (∃ z, s.fs = [(2, z)]) ∧ s.ws = []
def RE (c : CS) (s s0 : PS) (x : CX) : Prop := match x with
  | .error e => GoE N0 T S I P Q d s0 (e.1, e.2, s.nc)
  | .ok c' => ∃ j w s', c' = cAt j w c ∧ c.at_ < j ∧ j < T ∧ w.length + c.at_ ≤ j ∧ ¬ (K j = 21 ∨ K j = 22) ∧ Go N0 T S I P Q d s0 s' ∧ s'.st = 3 ∧ s'.j = j ∧ s'.fs = s.fs ∧ okS s' ∧ sWk 1 s' = sAt j w (sSt 3 s) ∧ lx_T s.nk [] w.reverse = some [true]
end
section
variable {N0 : am_M} {T : Nat} {S I P Q : Int → Int} {d : Nat} {K N : Int → Int} {M : am_M} {s s0 s1 : PS} {c : CS} {n : Nat} {o : Int} {x : CX}
theorem RE_tr (g : Go N0 T S I P Q d s1 s0) (h : RE N0 T S I P Q d K c s s0 x) : RE N0 T S I P Q d K c s s1 x := by
  cases x with
  | error e => exact GoE_tr g h
  | ok c' =>
    obtain ⟨j, w, s', a1, a2, a3, a4, a5, a6, a7⟩ := h
    exact ⟨j, w, s', a1, a2, a3, a4, a5, Go_tr g a6, a7⟩
theorem preA_sM (hp : preE T c s) {j : Nat} {g a : Int} {w : List cd} (hl : j < T) (hlen : w.length + (pmW g 0).length + (pmW a 0).length + c.at_ ≤ j) : preA T (cAt j w c) (sM j 0 g a w s) := by
  obtain ⟨⟨h1, h2⟩, ⟨h3, h4, h5⟩, ⟨h6, h7⟩, ⟨z, hf⟩, hw⟩ := hp
  have e1 := pmW_len (g := g) (l := (s.fs.length : Int)) (l' := 0)
  have e2 := pmW_len (g := a) (l := (s.fs.length : Int)) (l' := 0)
  have e3 := pmW_1 (g := g) (l := 0)
  have e4 := pmW_1 (g := a) (l := 0)
  have ew : (pmW g (s.fs.length : Int) ++ (pmW a (s.fs.length : Int) ++ s.ws)).length = (pmW g 0).length + (pmW a 0).length := by
    rw [List.length_append, List.length_append, hw, e1, e2]; rfl
  refine ⟨⟨rfl, h2⟩, ⟨rfl, hl, h5⟩, ⟨?_, ?_⟩, ⟨z, hf⟩, ?_, fun y hy => ?_⟩
  · show (w ++ c.cs).length ≤ j
    rw [List.length_append]; omega
  · show (w ++ s.cs).length + (pmW g (s.fs.length : Int) ++ (pmW a (s.fs.length : Int) ++ s.ws)).length ≤ j + 1
    rw [List.length_append, ew]; omega
  · show (pmW g (s.fs.length : Int) ++ (pmW a (s.fs.length : Int) ++ s.ws)).length ≤ 2
    rw [ew]; omega
  · have f1 : (s.fs.length : Int) = 1 := by rw [hf]; rfl
    rcases List.mem_append.mp hy with q | q
    · rw [pmW_m q, f1]; exact Int.le_refl _
    · rcases List.mem_append.mp q with q | q
      · rw [pmW_m q, f1]; exact Int.le_refl _
      · rw [hw] at q; cases q
theorem D_stepE (nx : NX N0 T S I P Q d) (hT : ∀ j : Nat, j < T → S j ≠ 0 → j + 1 < T) (T2 : T ≤ 301) (C : ∀ j : Nat, j < T → cor (K j) (N j) (S j) (I j)) (hp : preE T c s) {j : Nat} {g a : Int} {w : List cd} (hl : j < T) (hlen : w.length + (pmW g 0).length + (pmW a 0).length + c.at_ ≤ j) (F : CS → CX) (H : ∀ j2 w2, j < j2 → j2 < T → w2.length + j ≤ j2 → (∀ ts, ts.length ≤ 27 → lx_T s.nk ts w2.reverse = some (true :: ts)) → RE N0 T S I P Q d K c s (sM j2 3 g a (w2 ++ w) s) (F (cAt j2 (w2 ++ w) c))) : RE N0 T S I P Q d K c s (sM j 0 g a w s) ((cAsk K N P T (cAt j w c)).bind F) := by
  have r := D_ask nx hT T2 C (preA_sM hp hl hlen)
  cases hc : cAsk K N P T (cAt j w c) with
  | error e =>
    rw [hc] at r
    exact r
  | ok c' =>
    rw [hc] at r
    obtain ⟨j2, w2, e1, l1, l2, l3, g2, ty⟩ := r
    rw [sM_ask] at g2
    rw [cAt_at] at e1
    rw [e1]
    exact RE_tr g2 (H j2 w2 l1 l2 l3 ty)
theorem D_eiL (nx : NX N0 T S I P Q d) (hT : ∀ j : Nat, j < T → S j ≠ 0 → j + 1 < T) (T2 : T ≤ 301) (C : ∀ j : Nat, j < T → cor (K j) (N j) (S j) (I j)) (hp : preE T c s) : ∀ (m : Nat) (wt g : Int) (j : Nat) (wm : List cd), T ≤ m + j → j < T → c.at_ < j → (g = 0 ∨ g = 406) → (wt = 0 ∨ wt = 1) → (pmW g 0).length + wm.length + (pmW wt 0).length + c.at_ ≤ j → (lx_T s.nk [] (pmW g 0 ++ wm).reverse = some (if wt = 0 then [true] else [true, true])) → RE N0 T S I P Q d K c s (sM j 3 g (adE wt) wm s) (cEiL K (cAsk K N P T) m wt (cAt j (pmW g 0 ++ wm) c)) := by
  have hp2 := hp
  obtain ⟨⟨h1, h2⟩, ⟨h3, h4, h5⟩, ⟨h6, h7⟩, ⟨z, hf⟩, hw⟩ := hp
  have h15 : ∀ z ∈ s.ws, z.2 ≠ (s.fs.length : Int) := fun z hz => by rw [hw] at hz; cases hz
  have f1 : s.fs.length = 1 := by rw [hf]; rfl
  intro m
  induction m with
  | zero => intro wt g j wm hm hj; omega
  | succ m ih =>
    intro wt g j wm hm hj hcj hg hwt hlen ty
    have ha := adE_v hwt
    have cc := C j hj
    have e1 := pmW_len (g := g) (l := (s.fs.length : Int)) (l' := 0)
    have e2 := adE_len (l := (s.fs.length : Int)) (l' := 0) hwt
    have e5 := adE_len (l := 0) (l' := 0) hwt
    have e3 := pmW_1 (g := g) (l := 0)
    have e4 := pmW_1 (g := wt) (l := 0)
    have elen : (pmW g 0 ++ wm).length = (pmW g 0).length + wm.length := List.length_append
    have ew : (pmW g (s.fs.length : Int) ++ (pmW (adE wt) (s.fs.length : Int) ++ s.ws)).length = (pmW g 0).length + (pmW wt 0).length := by
      rw [List.length_append, List.length_append, hw, e1, e2]; rfl
    have ok : okS (sM j 3 g (adE wt) wm s) := by
      refine ⟨?_, ?_, ?_, ?_, ?_⟩
      · show (wm ++ s.cs).length + (pmW g (s.fs.length : Int) ++ (pmW (adE wt) (s.fs.length : Int) ++ s.ws)).length + s.fs.length ≤ 390
        rw [List.length_append, ew]; omega
      · show s.fs.length ≤ 30; omega
      · show (pmW g (s.fs.length : Int) ++ (pmW (adE wt) (s.fs.length : Int) ++ s.ws)).length ≤ 70
        rw [ew]; omega
      · show 0 ≤ s.op; omega
      · show s.op ≤ 8; omega
    show RE N0 T S I P Q d K c s (sM j 3 g (adE wt) wm s) (if K j = 22 then (cAsk K N P T (cAt (j + 1) (pmW g 0 ++ wm) c)).bind fun c2 => cEiL K (cAsk K N P T) m wt (cPush (406, 0) c2)
      else if K j = 21 then (cAsk K N P T (cFinE wt (cAt (j + 1) (pmW g 0 ++ wm) c))).bind fun c2 => cEiL K (cAsk K N P T) m 1 c2
      else .ok (cFinE wt (cAt j (pmW g 0 ++ wm) c)))
    by_cases q : K j = 22
    · rw [if_pos q]
      have hk := (cor_word cc (w := 22) (v := 17) (by omega) (by decide)).mpr q
      have hl := hT j hj (by rw [hk.1]; decide)
      have gs := g3_and nx (s := sM j 3 g (adE wt) wm s) rfl hk ok hl
      rw [sM_and hg ha h15] at gs
      have p6 : (pmW 406 0).length = 1 := rfl
      refine RE_tr gs (D_stepE nx hT T2 C hp2 hl (by rw [elen, p6, e5]; omega) _ fun j2 w2 l1 l2 l3 ty2 => ?_)
      have el2 : (w2 ++ (pmW g 0 ++ wm)).length = w2.length + ((pmW g 0).length + wm.length) := by rw [List.length_append, elen]
      rw [cPush_at (by rw [el2]; omega)]
      have := ih wt 406 j2 (w2 ++ (pmW g 0 ++ wm)) (by omega) l2 (by omega) (Or.inr rfl) hwt (by rw [el2, p6]; omega) (by
        show lx_T s.nk [] ((406, 0) :: (w2 ++ (pmW g 0 ++ wm))).reverse = _
        rw [List.reverse_cons, List.reverse_append, lx_T_app, lx_T_app, ty, Option.bind_some]
        by_cases z : wt = 0
        · rw [if_pos z, ty2 _ (by show 1 ≤ 27; omega), Option.bind_some, lx_T1]
          exact ty_ei (Or.inl rfl)
        · rw [if_neg z, ty2 _ (by show 2 ≤ 27; omega), Option.bind_some, lx_T1]
          exact ty_ei (Or.inl rfl))
      exact this
    · rw [if_neg q]
      by_cases p : K j = 21
      · rw [if_pos p]
        have hk := (cor_word cc (w := 21) (v := 16) (by omega) (by decide)).mpr p
        have hl := hT j hj (by rw [hk.1]; decide)
        have gs := g3_or nx (s := sM j 3 g (adE wt) wm s) rfl hk ok hl
        rw [sM_or hg ha h15] at gs
        rw [cFinE_at hwt (by rw [elen]; omega)]
        have el1 : (pmW (adE wt) 0 ++ (pmW g 0 ++ wm)).length = (pmW wt 0).length + ((pmW g 0).length + wm.length) := by rw [List.length_append, elen, e5]
        have p7 : (pmW 407 0).length = 1 := rfl
        have p0 : (pmW 0 0).length = 0 := rfl
        refine RE_tr gs (D_stepE nx hT T2 C hp2 hl (by rw [el1, p0, p7]; omega) _ fun j2 w2 l1 l2 l3 ty2 => ?_)
        have el2 : (w2 ++ (pmW (adE wt) 0 ++ (pmW g 0 ++ wm))).length = w2.length + ((pmW wt 0).length + ((pmW g 0).length + wm.length)) := by rw [List.length_append, el1]
        have p1 : (pmW 1 0).length = 1 := rfl
        have := ih 1 0 j2 (w2 ++ (pmW (adE wt) 0 ++ (pmW g 0 ++ wm))) (by omega) l2 (by omega) (Or.inl rfl) (Or.inr rfl) (by rw [el2, p0, p1]; omega) (by
          rw [pmW_0, List.nil_append, List.reverse_append, List.reverse_append, lx_T_app, lx_T_app, ty, Option.bind_some, if_neg (show ¬ (1 : Int) = 0 by decide)]
          have : lx_T s.nk (if wt = 0 then [true] else [true, true]) (pmW (adE wt) 0).reverse = some [true] := by
            rcases hwt with rfl | rfl
            · rfl
            · exact lx_T1.trans (ty_ei (Or.inr rfl))
          rw [this, Option.bind_some, ty2 _ (by show 1 ≤ 27; omega)])
        exact this
      · rw [if_neg p]
        refine ⟨j, pmW (adE wt) 0 ++ (pmW g 0 ++ wm), _, cFinE_at hwt (by rw [elen]; omega), hcj, hj, ?_, by omega, Go_rf, rfl, rfl, rfl, ok, sM_wk1 hg ha h15, ?_⟩
        · rw [List.length_append, elen]; omega
        · rw [List.reverse_append, lx_T_app, ty, Option.bind_some]
          rcases hwt with rfl | rfl
          · rfl
          · exact lx_T1.trans (ty_ei (Or.inr rfl))
theorem D_either (nx : NX N0 T S I P Q d) (hT : ∀ j : Nat, j < T → S j ≠ 0 → j + 1 < T) (T2 : T ≤ 301) (C : ∀ j : Nat, j < T → cor (K j) (N j) (S j) (I j)) (hp : preE T c s) : RE N0 T S I P Q d K c s s (cEither K N P T c) := by
  have h3 : s.st = 0 := hp.1.1
  have h5 : c.at_ = s.j := hp.2.1.1
  have h6 : s.j < T := hp.2.1.2.1
  have e0 : sM c.at_ 0 0 0 [] s = s := by
    unfold sM
    rw [pmW_0, ← h3, h5]
    rfl
  have p0 : (pmW 0 0).length = 0 := rfl
  have := D_stepE nx hT T2 C hp (j := c.at_) (g := 0) (a := 0) (w := []) (by omega) (by rw [p0]; show 0 + 0 + 0 + _ ≤ _; omega) (cEiL K (cAsk K N P T) T 0) fun j2 w2 l1 l2 l3 ty2 => by
    have l3 : w2.length + c.at_ ≤ j2 := l3
    have := D_eiL nx hT T2 C hp T 0 0 j2 (w2 ++ []) (by omega) l2 l1 (Or.inl rfl) (Or.inl rfl) (by rw [List.append_nil, p0]; omega) (by
      rw [pmW_0, List.append_nil, List.nil_append, if_pos rfl]
      exact ty2 [] (by show 0 ≤ 27; omega))
    exact this
  rw [e0] at this
  exact this
end
