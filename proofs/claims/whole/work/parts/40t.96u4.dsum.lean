/-! both readers, a sum -/
def pmW (g l : Int) : List (Int × Int) := if g = 0 then [] else [(g, l)]
theorem pmW_0 {l : Int} : pmW 0 l = [] := if_pos rfl
theorem pmW_n {g l : Int} (h : g ≠ 0) : pmW g l = [(g, l)] := if_neg h
theorem pmW_len {g l l' : Int} : (pmW g l).length = (pmW g l').length := by
  unfold pmW
  split <;> rfl
theorem pmW_1 {g l : Int} : (pmW g l).length ≤ 1 := by
  unfold pmW
  split
  · exact Nat.zero_le _
  · exact Nat.le_refl _
theorem pmW_m {g l : Int} {z : Int × Int} (h : z ∈ pmW g l) : z.2 = l := by
  unfold pmW at h
  split at h
  · cases h
  · rw [List.mem_singleton.mp h]
/-- what waits of + and - -/
def ad (w : Int) : Int := if w = 0 then 0 else sgn w
theorem ad_v {w : Int} (h : w = 0 ∨ w = 33 ∨ w = 34) : ad w = 0 ∨ ad w = 43 ∨ ad w = 45 := by
  rcases h with rfl | rfl | rfl
  · exact Or.inl rfl
  · exact Or.inr (Or.inl rfl)
  · exact Or.inr (Or.inr rfl)
theorem ad_len {w l l' : Int} (h : w = 0 ∨ w = 33 ∨ w = 34) : (pmW (ad w) l).length = (pmW w l').length := by
  rcases h with rfl | rfl | rfl <;> rfl
def sM (j : Nat) (st g a : Int) (wm : List cd) (s : PS) : PS := .mk j st s.op s.nk s.fs (pmW g (s.fs.length : Int) ++ (pmW a (s.fs.length : Int) ++ s.ws)) (wm ++ s.cs) s.nc s.kd s.po s.na s.nb s.nd
theorem wkL_4 {g a l : Int} {ws : List (Int × Int)} {cs : List cd} (hg : g = 0 ∨ g = 42 ∨ g = 47) (ha : a = 0 ∨ a = 43 ∨ a = 45) (hw : ∀ z ∈ ws, z.2 ≠ l) : wkL 4 l (pmW g l ++ (pmW a l ++ ws)) cs = (pmW a l ++ ws, pmW g 0 ++ cs) := by
  have st : ∀ cs, wkL 4 l (pmW a l ++ ws) cs = (pmW a l ++ ws, cs) := fun cs => by
    rcases ha with rfl | rfl | rfl
    · rw [pmW_0]; exact wkL_stop hw
    · rw [pmW_n (by decide)]; exact wkL_no (by decide)
    · rw [pmW_n (by decide)]; exact wkL_no (by decide)
  rcases hg with rfl | rfl | rfl
  · rw [pmW_0, pmW_0]; exact st cs
  · rw [pmW_n (g := 42) (l := l) (by decide), pmW_n (g := 42) (l := 0) (by decide)]; exact (wkL_go (by decide)).trans (st _)
  · rw [pmW_n (g := 47) (l := l) (by decide), pmW_n (g := 47) (l := 0) (by decide)]; exact (wkL_go (by decide)).trans (st _)
theorem wkL_3 {g a l : Int} {ws : List (Int × Int)} {cs : List cd} (hg : g = 0 ∨ g = 42 ∨ g = 47) (ha : a = 0 ∨ a = 43 ∨ a = 45) (hw : ∀ z ∈ ws, z.2 ≠ l) : wkL 3 l (pmW g l ++ (pmW a l ++ ws)) cs = (ws, pmW a 0 ++ (pmW g 0 ++ cs)) := by
  have st : ∀ cs, wkL 3 l (pmW a l ++ ws) cs = (ws, pmW a 0 ++ cs) := fun cs => by
    rcases ha with rfl | rfl | rfl
    · rw [pmW_0, pmW_0]; exact wkL_stop hw
    · rw [pmW_n (g := 43) (l := l) (by decide), pmW_n (g := 43) (l := 0) (by decide)]; exact (wkL_go (by decide)).trans (wkL_stop hw)
    · rw [pmW_n (g := 45) (l := l) (by decide), pmW_n (g := 45) (l := 0) (by decide)]; exact (wkL_go (by decide)).trans (wkL_stop hw)
  rcases hg with rfl | rfl | rfl
  · rw [pmW_0, pmW_0]; exact st cs
  · rw [pmW_n (g := 42) (l := l) (by decide), pmW_n (g := 42) (l := 0) (by decide)]; exact (wkL_go (by decide)).trans (st _)
  · rw [pmW_n (g := 47) (l := l) (by decide), pmW_n (g := 47) (l := 0) (by decide)]; exact (wkL_go (by decide)).trans (st _)
theorem cPush_at {z : cd} {j : Nat} {w : List cd} {c : CS} (h : w.length + c.cs.length < 300) : cPush z (cAt j w c) = cAt j (z :: w) c := by
  unfold cPush
  rw [if_pos (by show (w ++ c.cs).length < 300; rw [List.length_append]; exact h)]
  rfl
theorem cFin_at {wt : Int} {j : Nat} {w : List cd} {c : CS} (hw : wt = 0 ∨ wt = 33 ∨ wt = 34) (h : (pmW wt 0).length + w.length + c.cs.length ≤ 300) : cFin wt (cAt j w c) = cAt j (pmW (ad wt) 0 ++ w) c := by
  rcases hw with rfl | rfl | rfl
  · rfl
  · have h : 1 + w.length + c.cs.length ≤ 300 := h
    show cPush (43, 0) (cAt j w c) = _
    rw [cPush_at (by omega)]
    rfl
  · have h : 1 + w.length + c.cs.length ≤ 300 := h
    show cPush (45, 0) (cAt j w c) = _
    rw [cPush_at (by omega)]
    rfl
theorem cAt_at {j1 j2 : Nat} {w1 w2 : List cd} {c : CS} : cAt j2 w2 (cAt j1 w1 c) = cAt j2 (w2 ++ w1) c := by
  show CS.mk j2 c.law (w2 ++ (w1 ++ c.cs)) c.lf c.lt c.kd c.nm c.nl = CS.mk j2 c.law ((w2 ++ w1) ++ c.cs) c.lf c.lt c.kd c.nm c.nl
  rw [List.append_assoc]
theorem one_stop {s : PS} {z : Int × Int} {l : List (Int × Int)} (hf : s.fs = z :: l) (h7 : z.1 ≠ 7) (h8 : z.1 ≠ 8) : sOne s = sSt 2 s := by
  obtain ⟨k, z⟩ := z
  unfold sOne
  rw [show oneL s.fs s.cs s.op = (s.fs, s.cs, s.op) by
    rw [hf]
    show (if k = 7 then _ else if k = 8 then _ else _) = _
    rw [if_neg h7, if_neg h8]]
  rfl
theorem one_sM {j1 j2 : Nat} {st g a : Int} {w1 w2 : List cd} {s : PS} {z : Int × Int} {l : List (Int × Int)} (hf : s.fs = z :: l) (h7 : z.1 ≠ 7) (h8 : z.1 ≠ 8) : sOne (sAt j2 w2 (sM j1 st g a w1 s)) = sM j2 2 g a (w2 ++ w1) s := by
  rw [one_stop (s := sAt j2 w2 (sM j1 st g a w1 s)) hf h7 h8]
  show PS.mk j2 2 s.op s.nk s.fs _ (w2 ++ (w1 ++ s.cs)) s.nc s.kd s.po s.na s.nb s.nd = PS.mk j2 2 s.op s.nk s.fs _ ((w2 ++ w1) ++ s.cs) s.nc s.kd s.po s.na s.nb s.nd
  rw [List.append_assoc]
  rfl
theorem sM_wk3 {j : Nat} {g a : Int} {wm : List cd} {s : PS} (hg : g = 0 ∨ g = 42 ∨ g = 47) (ha : a = 0 ∨ a = 43 ∨ a = 45) (hw : ∀ z ∈ s.ws, z.2 ≠ (s.fs.length : Int)) {st : Int} : sWk 3 (sM j st g a wm s) = sAt j (pmW a 0 ++ (pmW g 0 ++ wm)) (sSt st s) := by
  unfold sWk
  show sCs (wkL 3 (s.fs.length : Int) (pmW g (s.fs.length : Int) ++ (pmW a (s.fs.length : Int) ++ s.ws)) (wm ++ s.cs)).2 (sWs (wkL 3 (s.fs.length : Int) (pmW g (s.fs.length : Int) ++ (pmW a (s.fs.length : Int) ++ s.ws)) (wm ++ s.cs)).1 (sM j st g a wm s)) = _
  rw [wkL_3 hg ha hw]
  show PS.mk j st s.op s.nk s.fs s.ws (pmW a 0 ++ (pmW g 0 ++ (wm ++ s.cs))) s.nc s.kd s.po s.na s.nb s.nd = PS.mk j st s.op s.nk s.fs s.ws ((pmW a 0 ++ (pmW g 0 ++ wm)) ++ s.cs) s.nc s.kd s.po s.na s.nb s.nd
  rw [List.append_assoc, List.append_assoc]
/-- behind * or / -/
theorem sM_mul {j : Nat} {g a G : Int} {wm : List cd} {s : PS} (hg : g = 0 ∨ g = 42 ∨ g = 47) (ha : a = 0 ∨ a = 43 ∨ a = 45) (hw : ∀ z ∈ s.ws, z.2 ≠ (s.fs.length : Int)) (hG : G = 42 ∨ G = 47) : sSt 1 (sWt G (sM j 2 g a wm s)) = sM (j + 1) 1 G a (pmW g 0 ++ wm) s := by
  have r : rk G = 4 := by rcases hG with rfl | rfl <;> rfl
  have e : sWk (rk G) (sM j 2 g a wm s) = sCs (pmW g 0 ++ (wm ++ s.cs)) (sWs (pmW a (s.fs.length : Int) ++ s.ws) (sM j 2 g a wm s)) := by
    rw [r]
    unfold sWk
    show sCs (wkL 4 (s.fs.length : Int) (pmW g (s.fs.length : Int) ++ (pmW a (s.fs.length : Int) ++ s.ws)) (wm ++ s.cs)).2 (sWs (wkL 4 (s.fs.length : Int) (pmW g (s.fs.length : Int) ++ (pmW a (s.fs.length : Int) ++ s.ws)) (wm ++ s.cs)).1 (sM j 2 g a wm s)) = _
    rw [wkL_4 hg ha hw]
  unfold sWt
  rw [e]
  show PS.mk (j + 1) 1 s.op s.nk s.fs ((G, (s.fs.length : Int)) :: (pmW a (s.fs.length : Int) ++ s.ws)) (pmW g 0 ++ (wm ++ s.cs)) s.nc s.kd s.po s.na s.nb s.nd = PS.mk (j + 1) 1 s.op s.nk s.fs (pmW G (s.fs.length : Int) ++ (pmW a (s.fs.length : Int) ++ s.ws)) ((pmW g 0 ++ wm) ++ s.cs) s.nc s.kd s.po s.na s.nb s.nd
  rw [List.append_assoc, pmW_n (g := G) (by omega)]
  rfl
/-- behind + or - -/
theorem sM_add {j : Nat} {g a G : Int} {wm : List cd} {s : PS} (hg : g = 0 ∨ g = 42 ∨ g = 47) (ha : a = 0 ∨ a = 43 ∨ a = 45) (hw : ∀ z ∈ s.ws, z.2 ≠ (s.fs.length : Int)) (hG : G = 43 ∨ G = 45) : sSt 1 (sWt G (sM j 2 g a wm s)) = sM (j + 1) 1 0 G (pmW a 0 ++ (pmW g 0 ++ wm)) s := by
  have r : rk G = 3 := by rcases hG with rfl | rfl <;> rfl
  have e : sWk (rk G) (sM j 2 g a wm s) = sAt j (pmW a 0 ++ (pmW g 0 ++ wm)) (sSt 2 s) := by
    rw [r]
    exact sM_wk3 hg ha hw
  unfold sWt
  rw [e]
  show PS.mk (j + 1) 1 s.op s.nk s.fs ((G, (s.fs.length : Int)) :: s.ws) ((pmW a 0 ++ (pmW g 0 ++ wm)) ++ s.cs) s.nc s.kd s.po s.na s.nb s.nd = PS.mk (j + 1) 1 s.op s.nk s.fs (pmW 0 (s.fs.length : Int) ++ (pmW G (s.fs.length : Int) ++ s.ws)) ((pmW a 0 ++ (pmW g 0 ++ wm)) ++ s.cs) s.nc s.kd s.po s.na s.nb s.nd
  rw [pmW_0, pmW_n (g := G) (by omega)]
  rfl
theorem ty_bin {k o : Int} {ts : List Bool} (h : o = 43 ∨ o = 45 ∨ o = 42 ∨ o = 47) : lx_t k (false :: false :: ts) (o, 0) = some (false :: ts) := by
  rcases h with rfl | rfl | rfl | rfl <;> rfl
section
variable (N0 : am_M) (T : Nat) (S I P Q : Int → Int) (d : Nat) (K : Int → Int)
/-- what a sum comes to, from s0 on, over s -/
def RL (n : Nat) (c : CS) (s s0 : PS) (x : CX) : Prop := match x with
  | .error e => GoE N0 T S I P Q d s0 (e.1, e.2, s.nc)
  | .ok c' => ∃ j w s', c' = cAt j w c ∧ c.at_ < j ∧ j < T ∧ w.length + c.at_ ≤ j ∧ ¬ (33 ≤ K j ∧ K j ≤ 36) ∧ Go N0 T S I P Q d s0 s' ∧ s'.st = 2 ∧ s'.j = j ∧ s'.fs = s.fs ∧ okS s' ∧ sWk 3 s' = sAt j w (sSt 2 s) ∧ ∀ ts, ts.length + 3 * n ≤ 55 → lx_T s.nk ts w.reverse = some (false :: ts)
end
section
variable {N0 : am_M} {T : Nat} {S I P Q : Int → Int} {d : Nat} {K N : Int → Int} {M : am_M} {s s0 s1 : PS} {c : CS} {n : Nat} {o : Int} {x : CX}
theorem RL_tr (g : Go N0 T S I P Q d s1 s0) (h : RL N0 T S I P Q d K n c s s0 x) : RL N0 T S I P Q d K n c s s1 x := by
  cases x with
  | error e => exact GoE_tr g h
  | ok c' =>
    obtain ⟨j, w, s', a1, a2, a3, a4, a5, a6, a7⟩ := h
    exact ⟨j, w, s', a1, a2, a3, a4, a5, Go_tr g a6, a7⟩
theorem pre_sM (hp : preS T n o c s) {j : Nat} {g a : Int} {w : List cd} (hl : j < T) (hlen : w.length + (pmW g 0).length + (pmW a 0).length + c.at_ ≤ j) : pre T n o (cAt j w c) (sM j 1 g a w s) := by
  obtain ⟨⟨⟨h1, h2, h2o⟩, ⟨h3, h4⟩, ⟨h5, h6, h7⟩, ⟨h8, h9, h10, h11⟩, h12, h13⟩, hf, h14, h15⟩ := hp
  have e1 := pmW_len (g := g) (l := (s.fs.length : Int)) (l' := 0)
  have e2 := pmW_len (g := a) (l := (s.fs.length : Int)) (l' := 0)
  have e3 := pmW_1 (g := g) (l := 0)
  have e4 := pmW_1 (g := a) (l := 0)
  refine ⟨⟨h1, h2, h2o⟩, ⟨rfl, h4⟩, ⟨rfl, hl, h7⟩, ⟨?_, ?_, h10, ?_⟩, h12, fun z hz => ?_⟩
  · show (w ++ c.cs).length ≤ j
    rw [List.length_append]; omega
  · show (w ++ s.cs).length + (pmW g (s.fs.length : Int) ++ (pmW a (s.fs.length : Int) ++ s.ws)).length + s.fs.length ≤ j + 3
    rw [List.length_append, List.length_append, List.length_append]; omega
  · show (pmW g (s.fs.length : Int) ++ (pmW a (s.fs.length : Int) ++ s.ws)).length + 2 * n ≤ 30
    rw [List.length_append, List.length_append]; omega
  · show z.2 ≤ (s.fs.length : Int)
    rcases List.mem_append.mp hz with q | q
    · rw [pmW_m q]; exact Int.le_refl _
    · rcases List.mem_append.mp q with q | q
      · rw [pmW_m q]; exact Int.le_refl _
      · exact h13 z q
theorem D_step (hO : ∀ o c s, pre T n o c s → R1 N0 T S I P Q d K N n o c s) (hp : preS T n o c s) {j : Nat} {g a : Int} {w : List cd} (hl : j < T) (hlen : w.length + (pmW g 0).length + (pmW a 0).length + c.at_ ≤ j) (F : CS → CX) (H : ∀ j2 w2, j < j2 → j2 < T → w2.length + j ≤ j2 → (∀ ts, ts.length + 3 * n ≤ 58 → lx_T s.nk ts w2.reverse = some (false :: ts)) → RL N0 T S I P Q d K n c s (sM j2 2 g a (w2 ++ w) s) (F (cAt j2 (w2 ++ w) c))) : RL N0 T S I P Q d K n c s (sM j 1 g a w s) ((cOne K N P T n o (cAt j w c)).bind F) := by
  have r := hO o _ _ (pre_sM hp hl hlen)
  obtain ⟨_, ⟨z, l, hf, hf7, hf8⟩, _⟩ := hp
  unfold R1 at r
  cases hc : cOne K N P T n o (cAt j w c) with
  | error e =>
    rw [hc] at r
    exact r
  | ok c' =>
    rw [hc] at r
    obtain ⟨j2, w2, e1, l1, l2, l3, g2, ty⟩ := r
    rw [one_sM hf hf7 hf8] at g2
    rw [cAt_at] at e1
    rw [e1]
    exact RL_tr g2 (H j2 w2 l1 l2 l3 ty)
theorem D_sumL (nx : NX N0 T S I P Q d) (hT : ∀ j : Nat, j < T → S j ≠ 0 → j + 1 < T) (T2 : T ≤ 301) (C : ∀ j : Nat, j < T → cor (K j) (N j) (S j) (I j)) (hO : ∀ o c s, pre T n o c s → R1 N0 T S I P Q d K N n o c s) (hp : preS T n o c s) : ∀ (m : Nat) (wt g : Int) (j : Nat) (wm : List cd), T ≤ m + j → j < T → c.at_ < j → (g = 0 ∨ g = 42 ∨ g = 47) → (wt = 0 ∨ wt = 33 ∨ wt = 34) → (pmW g 0).length + wm.length + (pmW wt 0).length + c.at_ ≤ j → (∀ ts : List Bool, ts.length + 3 * n ≤ 55 → lx_T s.nk ts (pmW g 0 ++ wm).reverse = some (if wt = 0 then false :: ts else false :: false :: ts)) → RL N0 T S I P Q d K n c s (sM j 2 g (ad wt) wm s) (cSumL K (cOne K N P T n o) m wt (cAt j (pmW g 0 ++ wm) c)) := by
  have hp2 := hp
  obtain ⟨⟨⟨h1, h2, h2o⟩, ⟨h3, h4⟩, ⟨h5, h6, h7⟩, ⟨h8, h9, h10, h11⟩, h12, h13⟩, ⟨zf, lf, hf, hf7, hf8⟩, h14, h15⟩ := hp
  intro m
  induction m with
  | zero => intro wt g j wm hm hj; omega
  | succ m ih =>
    intro wt g j wm hm hj hcj hg hwt hlen ty
    have ha := ad_v hwt
    have cc := C j hj
    have e1 := pmW_len (g := g) (l := (s.fs.length : Int)) (l' := 0)
    have e2 := ad_len (l := (s.fs.length : Int)) (l' := 0) hwt
    have e5 := ad_len (l := 0) (l' := 0) hwt
    have e3 := pmW_1 (g := g) (l := 0)
    have e4 := pmW_1 (g := wt) (l := 0)
    have elen : (pmW g 0 ++ wm).length = (pmW g 0).length + wm.length := List.length_append
    have ok : okS (sM j 2 g (ad wt) wm s) := by
      refine ⟨?_, ?_, ?_, ?_, ?_⟩
      · show (wm ++ s.cs).length + (pmW g (s.fs.length : Int) ++ (pmW (ad wt) (s.fs.length : Int) ++ s.ws)).length + s.fs.length ≤ 390
        rw [List.length_append, List.length_append, List.length_append]; omega
      · show s.fs.length ≤ 30; omega
      · show (pmW g (s.fs.length : Int) ++ (pmW (ad wt) (s.fs.length : Int) ++ s.ws)).length ≤ 70
        rw [List.length_append, List.length_append]; omega
      · show 0 ≤ s.op; omega
      · show s.op ≤ 8; omega
    have stop : ¬ (33 ≤ K j ∧ K j ≤ 36) → RL N0 T S I P Q d K n c s (sM j 2 g (ad wt) wm s) (.ok (cFin wt (cAt j (pmW g 0 ++ wm) c))) := fun q => by
      refine ⟨j, pmW (ad wt) 0 ++ (pmW g 0 ++ wm), _, cFin_at hwt (by rw [elen]; omega), hcj, hj, ?_, q, Go_rf, rfl, rfl, rfl, ok, sM_wk3 hg ha h15, fun ts ht => ?_⟩
      · rw [List.length_append, elen]; omega
      · rw [List.reverse_append, lx_T_app, ty ts ht, Option.bind_some]
        rcases hwt with rfl | rfl | rfl
        · rfl
        · exact lx_T1.trans (ty_bin (by decide))
        · exact lx_T1.trans (ty_bin (by decide))
    show RL N0 T S I P Q d K n c s (sM j 2 g (ad wt) wm s) (if K j < 33 then .ok (cFin wt (cAt j (pmW g 0 ++ wm) c)) else if K j ≤ 36 then
      (if K j = 35 ∨ K j = 36 then (cOne K N P T n o (cAt (j + 1) (pmW g 0 ++ wm) c)).bind fun c2 => cSumL K (cOne K N P T n o) m wt (cPush (sgn (K j), 0) c2)
       else (cOne K N P T n o (cFin wt (cAt (j + 1) (pmW g 0 ++ wm) c))).bind fun c2 => cSumL K (cOne K N P T n o) m (K j) c2)
      else .ok (cFin wt (cAt j (pmW g 0 ++ wm) c)))
    by_cases q : 33 ≤ K j ∧ K j ≤ 36
    · rw [if_neg (by omega), if_pos q.2]
      have ar : ari S I j := (cor_ari cc).mpr q
      have iv : I j = sgn (K j) := by
        have := (cor_s cc (by omega) (by omega)).2
        rw [this, sgn_sg2 (by omega)]
      have s0 : S j ≠ 0 := by rw [ar.1]; decide
      have hl := hT j hj s0
      have gs := g2_sign nx (s := sM j 2 g (ad wt) wm s) rfl ar hf ok hl
      rw [show I ((sM j 2 g (ad wt) wm s).j : Int) = sgn (K j) from iv] at gs
      by_cases p : K j = 35 ∨ K j = 36
      · rw [if_pos p]
        have hG : sgn (K j) = 42 ∨ sgn (K j) = 47 := by rcases p with p | p <;> rw [p] <;> decide
        rw [sM_mul hg ha h15 hG] at gs
        refine RL_tr gs (D_step hO hp2 hl (by rw [elen, pmW_n (g := sgn (K j)) (by omega)]; show _ + 1 + _ + _ ≤ _; omega) _ fun j2 w2 l1 l2 l3 ty2 => ?_)
        have el2 : (w2 ++ (pmW g 0 ++ wm)).length = w2.length + ((pmW g 0).length + wm.length) := by rw [List.length_append, elen]
        rw [cPush_at (by rw [el2]; omega)]
        have := ih wt (sgn (K j)) j2 (w2 ++ (pmW g 0 ++ wm)) (by omega) l2 (by omega) (Or.inr hG) hwt (by rw [el2, pmW_n (g := sgn (K j)) (by omega)]; show 1 + _ + _ + _ ≤ _; omega) (fun ts ht => by
          rw [pmW_n (g := sgn (K j)) (by omega)]
          show lx_T s.nk ts ((sgn (K j), 0) :: (w2 ++ (pmW g 0 ++ wm))).reverse = _
          rw [List.reverse_cons, List.reverse_append, lx_T_app, lx_T_app, ty ts ht, Option.bind_some]
          by_cases z : wt = 0
          · rw [if_pos z, ty2 _ (by show ts.length + 1 + _ ≤ _; omega), Option.bind_some, lx_T1]
            exact ty_bin (by omega)
          · rw [if_neg z, ty2 _ (by show ts.length + 1 + 1 + _ ≤ _; omega), Option.bind_some, lx_T1]
            exact ty_bin (by omega))
        rw [pmW_n (g := sgn (K j)) (l := 0) (by omega)] at this
        exact this
      · rw [if_neg p]
        have hG : sgn (K j) = 43 ∨ sgn (K j) = 45 := by
          have : K j = 33 ∨ K j = 34 := by omega
          rcases this with p | p <;> rw [p] <;> decide
        have hk : K j = 33 ∨ K j = 34 := by omega
        have hak : ad (K j) = sgn (K j) := if_neg (by omega)
        rw [sM_add hg ha h15 hG] at gs
        rw [cFin_at hwt (by rw [elen]; omega)]
        have el1 : (pmW (ad wt) 0 ++ (pmW g 0 ++ wm)).length = (pmW wt 0).length + ((pmW g 0).length + wm.length) := by rw [List.length_append, elen, e5]
        refine RL_tr gs (D_step hO hp2 hl (by rw [el1, pmW_0, pmW_n (g := sgn (K j)) (by omega)]; show _ + 0 + 1 + _ ≤ _; omega) _ fun j2 w2 l1 l2 l3 ty2 => ?_)
        have el2 : (w2 ++ (pmW (ad wt) 0 ++ (pmW g 0 ++ wm))).length = w2.length + ((pmW wt 0).length + ((pmW g 0).length + wm.length)) := by rw [List.length_append, el1]
        have := ih (K j) 0 j2 (w2 ++ (pmW (ad wt) 0 ++ (pmW g 0 ++ wm))) (by omega) l2 (by omega) (Or.inl rfl) (Or.inr hk) (by rw [el2, pmW_0, pmW_n (g := K j) (by omega)]; show 0 + _ + 1 + _ ≤ _; omega) (fun ts ht => by
          rw [pmW_0, List.nil_append, List.reverse_append, List.reverse_append, lx_T_app, lx_T_app, ty ts ht, Option.bind_some, if_neg (show ¬ K j = 0 by omega)]
          have : lx_T s.nk (if wt = 0 then false :: ts else false :: false :: ts) (pmW (ad wt) 0).reverse = some (false :: ts) := by
            rcases hwt with rfl | rfl | rfl
            · rfl
            · exact lx_T1.trans (ty_bin (by decide))
            · exact lx_T1.trans (ty_bin (by decide))
          rw [this, Option.bind_some, ty2 _ (by show ts.length + 1 + _ ≤ _; omega)])
        rw [hak, pmW_0] at this
        exact this
    · by_cases q1 : K j < 33
      · rw [if_pos q1]; exact stop q
      · rw [if_neg q1, if_neg (by omega)]; exact stop q
theorem D_sum (nx : NX N0 T S I P Q d) (hT : ∀ j : Nat, j < T → S j ≠ 0 → j + 1 < T) (T2 : T ≤ 301) (C : ∀ j : Nat, j < T → cor (K j) (N j) (S j) (I j)) (hO : ∀ o c s, pre T n o c s → R1 N0 T S I P Q d K N n o c s) (hp : preS T n o c s) : RS N0 T S I P Q d K N n o c s := by
  have h3 : s.st = 1 := hp.1.2.1.1
  have h5 : c.at_ = s.j := hp.1.2.2.1.1
  have h6 : s.j < T := hp.1.2.2.1.2.1
  have e0 : sM c.at_ 1 0 0 [] s = s := by
    unfold sM
    rw [pmW_0, ← h3, h5]
    rfl
  have := D_step hO hp (j := c.at_) (g := 0) (a := 0) (w := []) (by omega) (by rw [pmW_0]; show 0 + 0 + 0 + _ ≤ _; omega) (cSumL K (cOne K N P T n o) T 0) fun j2 w2 l1 l2 l3 ty2 => by
    have l3 : w2.length + c.at_ ≤ j2 := l3
    have := D_sumL nx hT T2 C hO hp T 0 0 j2 (w2 ++ []) (by omega) l2 l1 (Or.inl rfl) (Or.inl rfl) (by rw [List.append_nil, pmW_0]; show 0 + _ + 0 + _ ≤ _; omega) fun ts ht => by
      rw [pmW_0, List.append_nil, List.nil_append, if_pos rfl]
      exact ty2 ts (by omega)
    exact this
  rw [e0] at this
  exact this
theorem D_one (nx : NX N0 T S I P Q d) (hT : ∀ j : Nat, j < T → S j ≠ 0 → j + 1 < T) (T2 : T ≤ 301) (C : ∀ j : Nat, j < T → cor (K j) (N j) (S j) (I j)) : ∀ (n : Nat) (o : Int) (c : CS) (s : PS), pre T n o c s → R1 N0 T S I P Q d K N n o c s := by
  intro n
  induction n with
  | zero =>
    intro o c s h
    have := h.1.1
    omega
  | succ n ih =>
    intro o c s h
    by_cases k1 : K c.at_ = 24 ∨ K c.at_ = 34
    · exact D_turn nx hT T2 C ih h k1
    · by_cases k2 : K c.at_ = 37
      · exact D_paren nx hT T2 C (fun o c s hp => D_sum nx hT T2 C ih hp) h k2
      · exact D_val nx hT T2 C h (by omega)
theorem D_sumN (nx : NX N0 T S I P Q d) (hT : ∀ j : Nat, j < T → S j ≠ 0 → j + 1 < T) (T2 : T ≤ 301) (C : ∀ j : Nat, j < T → cor (K j) (N j) (S j) (I j)) {n : Nat} (hp : preS T (9 - n) n c s) : RL N0 T S I P Q d K (9 - n) c s s (cSumN K N P T n c) :=
  D_sum nx hT T2 C (D_one nx hT T2 C (9 - n)) hp
end
