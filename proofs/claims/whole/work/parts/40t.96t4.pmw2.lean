/-! the model's parser: waits and frames -/
/-- what waits is worked off -/
def wkL (p : Int) (n : Int) : List (Int × Int) → List cd → List (Int × Int) × List cd
  | [], cs => ([], cs)
  | (g, l) :: ws, cs => if l = n then (if rk g < p then ((g, l) :: ws, cs) else wkL p n ws ((g, 0) :: cs)) else ((g, l) :: ws, cs)
def sWk (p : Int) (s : PS) : PS := sCs (wkL p s.fs.length s.ws s.cs).2 (sWs (wkL p s.fs.length s.ws s.cs).1 s)
/-- a value is over: what turns it round is emitted -/
def oneL : List (Int × Int) → List cd → Int → List (Int × Int) × List cd × Int
  | [], cs, o => ([], cs, o)
  | (k, z) :: fs, cs, o => if k = 7 then oneL fs ((402, 0) :: cs) (o - 1) else if k = 8 then oneL fs ((403, 0) :: cs) (o - 1) else ((k, z) :: fs, cs, o)
def sOne (s : PS) : PS := sSt 2 (sOp (oneL s.fs s.cs s.op).2.2 (sCs (oneL s.fs s.cs s.op).2.1 (sFs (oneL s.fs s.cs s.op).1 s)))
def askL : List (Int × Int) → List cd → Int → List (Int × Int) × List cd × Int
  | [], cs, o => ([], cs, o)
  | (k, z) :: fs, cs, o => if k = 3 then askL fs ((405, 0) :: cs) (o - 1) else ((k, z) :: fs, cs, o)
def sAsk (s : PS) : PS := sSt 3 (sOp (askL s.fs s.cs s.op).2.2 (sCs (askL s.fs s.cs s.op).2.1 (sFs (askL s.fs s.cs s.op).1 s)))
/-- a sign waits -/
def sWt (g : Int) (s : PS) : PS := sJ (sWs ((g, (s.fs.length : Int)) :: (sWk (rk g) s).ws) (sWk (rk g) s))
section
variable {N0 : am_M} {T : Nat} {S I P Q : Int → Int} {d : Nat} {M : am_M} {s : PS} {e : Int × Int × Nat}
theorem u_152 {p : Int} : ∀ (n : Nat) (s : PS) (M : am_M), s.ws.length = n → PM N0 T S I P Q s M → s.cs.length + s.ws.length < 400 → s.ws.length ≤ 80 → s.fs.length < 40 → ∃ M', am_Ex d 152 1 [(2, 447), (0, p)] [] M = some (0, M') ∧ PM N0 T S I P Q (sWk p s) M' := by
  intro n
  induction n with
  | zero =>
    intro s M hn h hc hw hf
    have hn' := List.length_eq_zero_iff.mp hn
    rw [aq_152_1, ax_o_447, ax_gt, h.wn, hn, if_pos (by decide)]
    refine ⟨M, rfl, ?_⟩
    have : sWk p s = s := by unfold sWk; rw [hn']; unfold wkL; rw [show sWs [] s = s by unfold sWs; rw [← hn']; rfl]; rfl
    rw [this]; exact h
  | succ n ih =>
    intro s M hn h hc hw hf
    obtain ⟨⟨g, l⟩, ws, e⟩ : ∃ z ws, s.ws = z :: ws := by
      cases hw : s.ws with
      | nil => rw [hw] at hn; cases hn
      | cons z ws => exact ⟨z, ws, rfl⟩
    have el : s.ws.length = ws.length + 1 := by rw [e]; rfl
    have q := (e ▸ h.ws : WST M ((g, l) :: ws))
    have same : ∀ b, wkL p s.fs.length s.ws s.cs = ((g, l) :: ws, s.cs) → b = s → sWk p s = b := fun b hb hs => by
      unfold sWk
      rw [hb, hs, ← e]
      rfl
    rw [aq_152_1, ax_o_447, ax_gt, h.wn, if_neg (by omega), kr_447_27 h.hK, ax_w32 (by omega) (by omega), show (s.ws.length : Int) - 1 = (ws.length : Int) by omega, ax_a_462, ax_gi (by omega) (by omega), q.2.1, h.fn]
    dsimp only
    by_cases hl : l = (s.fs.length : Int)
    · rw [if_pos hl, kr_447_26 h.hK, ax_a_461, ax_gi (by omega) (by omega), q.1, u_78, Option.bind_some]
      dsimp only
      by_cases hr : rk g < p
      · rw [if_pos hr]
        refine ⟨M, rfl, ?_⟩
        rw [same s (by rw [e]; unfold wkL; rw [if_pos hl, if_pos hr]) rfl]; exact h
      · rw [if_neg hr, h.wn, ax_w32 (by omega) (by omega), show (s.ws.length : Int) - 1 = (ws.length : Int) by omega, ax_let]
        have h1 := w_popw h e
        have q1 : am_rd (am_wr M 447 25 (ws.length : Int)) 461 (ws.length : Int) = g := (ax_wc (by decide)).trans q.1
        rw [kr_447_26 h1.hK, show am_rd (am_wr M 447 25 (ws.length : Int)) 447 25 = (ws.length : Int) from ax_ws, ax_a_461, ax_gi (by omega) (by omega), q1]
        obtain ⟨M2, e2, h2⟩ := u_75 (d := d) h1 (a := g) (b := 0) (by show s.cs.length < 400; omega)
        rw [e2, Option.bind_some]
        dsimp only
        obtain ⟨M3, e3, h3⟩ := ih _ M2 (by show ws.length = n; omega) h2 (by show s.cs.length + 1 + ws.length < 400; omega) (by show ws.length ≤ 80; omega) hf
        refine ⟨M3, e3, ?_⟩
        have : sWk p (sCs ((g, 0) :: (sWs ws s).cs) (sWs ws s)) = sWk p s := by
          unfold sWk
          rw [e]
          show sCs (wkL p s.fs.length ws ((g, 0) :: s.cs)).2 (sWs (wkL p s.fs.length ws ((g, 0) :: s.cs)).1 _) = sCs (wkL p s.fs.length ((g, l) :: ws) s.cs).2 (sWs (wkL p s.fs.length ((g, l) :: ws) s.cs).1 s)
          rw [show wkL p s.fs.length ((g, l) :: ws) s.cs = wkL p s.fs.length ws ((g, 0) :: s.cs) by show (if l = (s.fs.length : Int) then (if rk g < p then _ else _) else _) = _; rw [if_pos hl, if_neg hr]]
          rfl
        rw [this] at h3; exact h3
    · rw [if_neg hl]
      refine ⟨M, rfl, ?_⟩
      rw [same s (by rw [e]; unfold wkL; rw [if_neg hl]) rfl]; exact h
theorem u_152c (h : PM N0 T S I P Q s M) {p : Int} (hc : s.cs.length + s.ws.length < 400) (hw : s.ws.length ≤ 80) (hf : s.fs.length < 40) : ∃ M', am_Call d 152 [(2, 447), (0, p)] M = some (0, M') ∧ PM N0 T S I P Q (sWk p s) M' := by
  rw [aq_152]
  exact u_152 _ s M rfl h hc hw hf
theorem u_153 : ∀ (n : Nat) (s : PS) (M : am_M), s.fs.length = n → PM N0 T S I P Q s M → s.cs.length + s.fs.length < 400 → s.fs.length < 40 → (s.fs.length : Int) ≤ s.op + 50 → s.op ≤ 100 → (oneL s.fs s.cs s.op).1 ≠ [] → ∃ M', am_Ex d 153 1 [(2, 447)] [] M = some (0, M') ∧ PM N0 T S I P Q (sOne s) M' := by
  intro n
  induction n with
  | zero =>
    intro s M hn h hc hf o1 o2 hne
    have hn' := List.length_eq_zero_iff.mp hn
    rw [hn'] at hne
    exact absurd rfl hne
  | succ n ih =>
    intro s M hn h hc hf o1 o2 hne
    obtain ⟨⟨k, z⟩, l, e⟩ : ∃ z l, s.fs = z :: l := by
      cases hw : s.fs with
      | nil => rw [hw] at hn; cases hn
      | cons z ws => exact ⟨z, ws, rfl⟩
    have el : s.fs.length = l.length + 1 := by rw [e]; rfl
    have top : am_Call d 77 [(2, 447)] M = some (k, M) := u_77 h e (by omega)
    have go : ∀ (cc : Int), oneL s.fs s.cs s.op = oneL l ((cc, 0) :: s.cs) (s.op - 1) → ∃ M', ((am_Call d 75 [(2, 447), (0, cc), (0, 0)] M).bind fun r104 => am_let (am_wr r104.2 447 22 (am_w32 ((am_rd r104.2 447 22) - 1))) fun M105 => am_let (am_wr M105 447 21 (am_w32 ((am_rd M105 447 21) - 1))) fun M106 => am_Ex d 153 1 [(2, 447)] [] M106) = some (0, M') ∧ PM N0 T S I P Q (sOne s) M' := fun cc hcc => by
      obtain ⟨M2, e2, h2⟩ := u_75 (d := d) h (a := cc) (b := 0) (by omega)
      rw [e2, Option.bind_some]
      dsimp only
      rw [h2.fn, ax_w32 (x := ((sCs ((cc, 0) :: s.cs) s).fs.length : Int) - 1) (by show _ ≤ (s.fs.length : Int) - 1; omega) (by show (s.fs.length : Int) - 1 < _; omega), show ((sCs ((cc, 0) :: s.cs) s).fs.length : Int) - 1 = (l.length : Int) by show (s.fs.length : Int) - 1 = _; omega]
      have h3 := w_pop h2 (z := (k, z)) (l := l) e
      rw [ax_let, h3.op, ax_w32 (x := (sFs l (sCs ((cc, 0) :: s.cs) s)).op - 1) (by show _ ≤ s.op - 1; omega) (by show s.op - 1 < _; omega)]
      have h4 := w_op h3 (v := s.op - 1)
      obtain ⟨M5, e5, h5⟩ := ih _ _ (by show l.length = n; omega) h4 (by show s.cs.length + 1 + l.length < 400; omega) (by show l.length < 40; omega) (by show (l.length : Int) ≤ s.op - 1 + 50; omega) (by show s.op - 1 ≤ 100; omega) (by
        show (oneL l ((cc, 0) :: s.cs) (s.op - 1)).1 ≠ []
        rw [← hcc]; exact hne)
      refine ⟨M5, e5, ?_⟩
      have : sOne (sOp (s.op - 1) (sFs l (sCs ((cc, 0) :: s.cs) s))) = sOne s := by
        unfold sOne
        rw [hcc]
        rfl
      rw [this] at h5; exact h5
    rw [aq_153_1, ax_o_447, ax_gt, top, Option.bind_some]
    dsimp only
    by_cases k7 : k = 7
    · rw [if_pos k7, aq_153_10, ax_o_447, ax_gt, top, Option.bind_some]
      dsimp only
      rw [if_pos k7]
      exact go 402 (by rw [e]; show (if k = 7 then _ else _) = _; rw [if_pos k7])
    · rw [if_neg k7, top, Option.bind_some]
      dsimp only
      by_cases k8 : k = 8
      · rw [if_pos k8, aq_153_10, ax_o_447, ax_gt, top, Option.bind_some]
        dsimp only
        rw [if_neg k7]
        exact go 403 (by rw [e]; show (if k = 7 then _ else if k = 8 then _ else _) = _; rw [if_neg k7, if_pos k8])
      · rw [if_neg k8]
        refine ⟨_, rfl, ?_⟩
        have : sOne s = sSt 2 s := by
          unfold sOne
          rw [show oneL s.fs s.cs s.op = (s.fs, s.cs, s.op) by rw [e]; show (if k = 7 then _ else if k = 8 then _ else _) = _; rw [if_neg k7, if_neg k8]]
          rfl
        rw [this]; exact w_st h
theorem u_153c (h : PM N0 T S I P Q s M) (hc : s.cs.length + s.fs.length < 400) (hf : s.fs.length < 40) (o1 : (s.fs.length : Int) ≤ s.op + 50) (o2 : s.op ≤ 100) (hne : (oneL s.fs s.cs s.op).1 ≠ []) : ∃ M', am_Call d 153 [(2, 447)] M = some (0, M') ∧ PM N0 T S I P Q (sOne s) M' := by
  rw [aq_153]
  exact u_153 _ s M rfl h hc hf o1 o2 hne
theorem u_154 : ∀ (n : Nat) (s : PS) (M : am_M), s.fs.length = n → PM N0 T S I P Q s M → s.cs.length + s.fs.length < 400 → s.fs.length < 40 → (s.fs.length : Int) ≤ s.op + 50 → s.op ≤ 100 → (askL s.fs s.cs s.op).1 ≠ [] → ∃ M', am_Ex d 154 1 [(2, 447)] [] M = some (0, M') ∧ PM N0 T S I P Q (sAsk s) M' := by
  intro n
  induction n with
  | zero =>
    intro s M hn h hc hf o1 o2 hne
    have hn' := List.length_eq_zero_iff.mp hn
    rw [hn'] at hne
    exact absurd rfl hne
  | succ n ih =>
    intro s M hn h hc hf o1 o2 hne
    obtain ⟨⟨k, z⟩, l, e⟩ : ∃ z l, s.fs = z :: l := by
      cases hw : s.fs with
      | nil => rw [hw] at hn; cases hn
      | cons z ws => exact ⟨z, ws, rfl⟩
    have el : s.fs.length = l.length + 1 := by rw [e]; rfl
    have top : am_Call d 77 [(2, 447)] M = some (k, M) := u_77 h e (by omega)
    rw [aq_154_1, ax_o_447, ax_gt, top, Option.bind_some]
    dsimp only
    by_cases k3 : k = 3
    · have hcc : askL s.fs s.cs s.op = askL l ((405, 0) :: s.cs) (s.op - 1) := by rw [e]; show (if k = 3 then _ else _) = _; rw [if_pos k3]
      rw [if_pos k3, h.fn, ax_w32 (x := (s.fs.length : Int) - 1) (by omega) (by omega), show (s.fs.length : Int) - 1 = (l.length : Int) by omega, ax_let]
      have h3 := w_pop h (z := (k, z)) (l := l) e
      rw [h3.op, ax_w32 (x := (sFs l s).op - 1) (by show _ ≤ s.op - 1; omega) (by show s.op - 1 < _; omega), ax_let]
      have h4 := w_op h3 (v := s.op - 1)
      obtain ⟨M2, e2, h2⟩ := u_75 (d := d) h4 (a := 405) (b := 0) (by show s.cs.length < 400; omega)
      have e2' : am_Call d 75 [(2, 447), (0, 405), (0, 0)] (am_wr (am_wr M 447 22 (l.length : Int)) 447 21 ((sFs l s).op - 1)) = some (0, M2) := e2
      rw [e2', Option.bind_some]
      dsimp only
      obtain ⟨M5, e5, h5⟩ := ih _ _ (by show l.length = n; omega) h2 (by show s.cs.length + 1 + l.length < 400; omega) (by show l.length < 40; omega) (by show (l.length : Int) ≤ s.op - 1 + 50; omega) (by show s.op - 1 ≤ 100; omega) (by
        show (askL l ((405, 0) :: s.cs) (s.op - 1)).1 ≠ []
        rw [← hcc]; exact hne)
      refine ⟨M5, e5, ?_⟩
      have : sAsk (sCs ((405, 0) :: (sOp (s.op - 1) (sFs l s)).cs) (sOp (s.op - 1) (sFs l s))) = sAsk s := by
        unfold sAsk
        rw [hcc]
        rfl
      rw [this] at h5; exact h5
    · rw [if_neg k3]
      refine ⟨_, rfl, ?_⟩
      have : sAsk s = sSt 3 s := by
        unfold sAsk
        rw [show askL s.fs s.cs s.op = (s.fs, s.cs, s.op) by rw [e]; show (if k = 3 then _ else _) = _; rw [if_neg k3]]
        rfl
      rw [this]; exact w_st h
theorem u_154c (h : PM N0 T S I P Q s M) (hc : s.cs.length + s.fs.length < 400) (hf : s.fs.length < 40) (o1 : (s.fs.length : Int) ≤ s.op + 50) (o2 : s.op ≤ 100) (hne : (askL s.fs s.cs s.op).1 ≠ []) : ∃ M', am_Call d 154 [(2, 447)] M = some (0, M') ∧ PM N0 T S I P Q (sAsk s) M' := by
  rw [aq_154]
  exact u_154 _ s M rfl h hc hf o1 o2 hne
end
