/-! the model's parser: its steps -/
theorem wkL_len {p n : Int} : ∀ (ws : List (Int × Int)) (cs : List cd), (wkL p n ws cs).1.length ≤ ws.length ∧ (wkL p n ws cs).1.length + (wkL p n ws cs).2.length = ws.length + cs.length := by
  intro ws
  induction ws with
  | nil => intro cs; exact ⟨Nat.le_refl _, rfl⟩
  | cons z ws ih =>
    intro cs
    obtain ⟨g, l⟩ := z
    unfold wkL
    split
    · split
      · exact ⟨Nat.le_refl _, rfl⟩
      · have := ih ((g, 0) :: cs)
        simp only [List.length_cons] at this ⊢
        omega
    · exact ⟨Nat.le_refl _, rfl⟩
def okS (s : PS) : Prop := s.cs.length + s.ws.length + s.fs.length ≤ 390 ∧ s.fs.length ≤ 30 ∧ s.ws.length ≤ 70 ∧ 0 ≤ s.op ∧ s.op ≤ 8
theorem okS_wk {s : PS} {p : Int} (h : okS s) : okS (sWk p s) := by
  have := wkL_len (p := p) (n := s.fs.length) s.ws s.cs
  obtain ⟨h1, h2, h3, h4⟩ := h
  refine ⟨?_, h2, ?_, h4⟩
  · show (wkL p s.fs.length s.ws s.cs).2.length + (wkL p s.fs.length s.ws s.cs).1.length + s.fs.length ≤ 390; omega
  · show (wkL p s.fs.length s.ws s.cs).1.length ≤ 70; omega
def sOpen (k : Int) (s : PS) : PS := sJ (sFs ((k, 0) :: s.fs) (sOp (s.op + 1) s))
def sOver (s : PS) : PS := sSt 4 (sJ (sNc (sCs ((408, 0) :: (sWk 1 s).cs) (sFs [] (sWk 1 s)))))
noncomputable def Ex45 (d : Nat) (M : am_M) : Option (Int × am_M) := am_Ex d 295 45 [(2, 447), am_N, am_N] [] M
section
variable (N0 : am_M) (T : Nat) (S I P Q : Int → Int) (d : Nat)
def Go (s s' : PS) : Prop := ∀ M, PM N0 T S I P Q s M → ∃ M', PM N0 T S I P Q s' M' ∧ Ex45 d M = Ex45 d M'
def GoE (s : PS) (e : Int × Int × Nat) : Prop := ∀ M, PM N0 T S I P Q s M → ∃ M', PN N0 e M' ∧ Ex45 d M = Ex45 d M'
end
section
variable {N0 : am_M} {T : Nat} {S I P Q : Int → Int} {d : Nat} {M : am_M} {s s' s2 : PS} {e : Int × Int × Nat}
theorem Go_tr (a : Go N0 T S I P Q d s s') (b : Go N0 T S I P Q d s' s2) : Go N0 T S I P Q d s s2 := fun M h => by
  obtain ⟨M1, h1, e1⟩ := a M h
  obtain ⟨M2, h2, e2⟩ := b M1 h1
  exact ⟨M2, h2, e1.trans e2⟩
theorem Go_rf : Go N0 T S I P Q d s s := fun M h => ⟨M, h, rfl⟩
theorem GoE_tr (a : Go N0 T S I P Q d s s') (b : GoE N0 T S I P Q d s' e) : GoE N0 T S I P Q d s e := fun M h => by
  obtain ⟨M1, h1, e1⟩ := a M h
  obtain ⟨M2, h2, e2⟩ := b M1 h1
  exact ⟨M2, h2, e1.trans e2⟩
theorem x_56 (h : PM N0 T S I P Q s M) (hs : s.st ≠ 4 ∨ S s.j ≠ 0) : Ex45 d M = am_Ex d 295 56 [(2, 447), am_N, am_N] [] M := by
  unfold Ex45
  rw [aq_295_45, ax_o_447, ax_gt, if_pos h.wr, h.st, h.so]
  by_cases h4 : s.st = 4
  · rw [if_pos h4, if_neg (by rcases hs with h | h; exact absurd h4 h; exact h)]
  · rw [if_neg h4]
/-- a step, of the state k, by the method y -/
theorem x_0 (h : PM N0 T S I P Q s M) (hs : s.st = 0) : Ex45 d M = (am_Call d 246 [(2, 447)] M).bind fun r => Ex45 d r.2 := by
  rw [x_56 h (Or.inl (by omega)), aq_295_56, ax_o_447, ax_gt, h.st, if_pos hs]; rfl
theorem x_1 (h : PM N0 T S I P Q s M) (hs : s.st = 1) : Ex45 d M = (am_Call d 247 [(2, 447)] M).bind fun r => Ex45 d r.2 := by
  rw [x_56 h (Or.inl (by omega)), aq_295_56, ax_o_447, ax_gt, h.st, if_neg (by omega), if_pos hs]; rfl
theorem x_2 (h : PM N0 T S I P Q s M) (hs : s.st = 2) : Ex45 d M = (am_Call d 248 [(2, 447)] M).bind fun r => Ex45 d r.2 := by
  rw [x_56 h (Or.inl (by omega)), aq_295_56, ax_o_447, ax_gt, h.st, if_neg (by omega), if_neg (by omega), if_pos hs]; rfl
theorem x_3 (h : PM N0 T S I P Q s M) (hs : s.st = 3) : Ex45 d M = (am_Call d 249 [(2, 447)] M).bind fun r => Ex45 d r.2 := by
  rw [x_56 h (Or.inl (by omega)), aq_295_56, ax_o_447, ax_gt, h.st, if_neg (by omega), if_neg (by omega), if_neg (by omega), if_pos hs]; rfl
theorem x_4 (h : PM N0 T S I P Q s M) (hs : s.st = 4) (h0 : S s.j ≠ 0) : Ex45 d M = (am_Call d 281 [(2, 447)] M).bind fun r => Ex45 d r.2 := by
  rw [x_56 h (Or.inr h0), aq_295_56, ax_o_447, ax_gt, h.st, if_neg (by omega), if_neg (by omega), if_neg (by omega), if_neg (by omega)]; rfl
theorem u_217 (nx : NX N0 T S I P Q d) (h : PM N0 T S I P Q s M) {k : Int} (hk : k ≠ 5) (ok : okS s) (o8 : s.op < 8) (hl : s.j + 1 < T) : ∃ M', am_Call d 217 [(2, 447), (0, k)] M = some (1, M') ∧ PM N0 T S I P Q (sOpen k s) M' := by
  obtain ⟨k1, k2, k3, k4, k5⟩ := ok
  rw [aq_217, ax_o_447, ax_gt, h.op, if_neg (by omega), ax_w32 (by omega) (by omega), ax_let]
  have h1 := w_op h (v := s.op + 1)
  obtain ⟨M2, e2, h2⟩ := u_76 (d := d) h1 (k := k) (z := 0) hk (by show s.fs.length < 40; omega)
  rw [e2, Option.bind_some]
  dsimp only
  obtain ⟨M3, e3, h3⟩ := u_194 nx h2 hl
  rw [e3]
  exact ⟨_, rfl, h3⟩
theorem u_217e (h : PM N0 T S I P Q s M) {k : Int} (o8 : s.op = 8) : ∃ M', am_Call d 217 [(2, 447), (0, k)] M = some (0, M') ∧ PN N0 (3, P s.j, s.nc) M' := by
  rw [aq_217, ax_o_447, ax_gt, h.op, if_pos o8]
  obtain ⟨M2, e2, h2⟩ := u_74 (d := d) h (x := 3) (by decide)
  rw [e2]
  exact ⟨_, rfl, h2⟩
theorem u_218 (nx : NX N0 T S I P Q d) (h : PM N0 T S I P Q s M) {g : Int} (ok : okS s) (hl : s.j + 1 < T) : ∃ M', am_Call d 218 [(2, 447), (0, g)] M = some (0, M') ∧ PM N0 T S I P Q (sWt g s) M' := by
  have ok' := okS_wk (p := rk g) ok
  obtain ⟨k1, k2, k3, k4, k5⟩ := ok
  rw [aq_218, u_78, Option.bind_some, ax_o_447, ax_gt]
  dsimp only
  obtain ⟨M2, e2, h2⟩ := u_152c (d := d) h (p := rk g) (by omega) (by omega) (by omega)
  rw [e2, Option.bind_some]
  dsimp only
  have wl : (sWk (rk g) s).ws.length ≤ 70 := ok'.2.2.1
  have hw := w_wait h2 (a := g) (b := (s.fs.length : Int))
  rw [kr_447_26 h2.hK, h2.wn, ax_a_461, ax_gi (by omega) (by omega), ax_let]
  have K1 : ax_K (am_wr M2 461 ((sWk (rk g) s).ws.length : Int) g) := m_wa h2.hK (by omega) (by omega)
  rw [kr_447_27 K1, show am_rd (am_wr M2 461 ((sWk (rk g) s).ws.length : Int) g) 447 25 = ((sWk (rk g) s).ws.length : Int) from (ax_wc (by decide)).trans h2.wn, show am_rd (am_wr M2 461 ((sWk (rk g) s).ws.length : Int) g) 447 22 = (s.fs.length : Int) from (ax_wc (by decide)).trans h2.fn, ax_a_462, ax_gi (by omega) (by omega), ax_let, show am_rd (am_wr (am_wr M2 461 ((sWk (rk g) s).ws.length : Int) g) 462 ((sWk (rk g) s).ws.length : Int) (s.fs.length : Int)) 447 25 = ((sWk (rk g) s).ws.length : Int) from (ax_wc (by decide)).trans ((ax_wc (by decide)).trans h2.wn), ax_w32 (by omega) (by omega), ax_let]
  obtain ⟨M3, e3, h3⟩ := u_194 nx hw hl
  rw [e3]
  exact ⟨_, rfl, h3⟩
theorem u_219 (nx : NX N0 T S I P Q d) (h : PM N0 T S I P Q s M) (ok : okS s) (n24 : s.nc < 24) (hl : s.j + 1 < T) : ∃ M', am_Call d 219 [(2, 447)] M = some (0, M') ∧ PM N0 T S I P Q (sOver s) M' := by
  have ok' := okS_wk (p := 1) ok
  obtain ⟨k1, k2, k3, k4, k5⟩ := ok
  rw [aq_219, ax_o_447, ax_gt]
  obtain ⟨M2, e2, h2⟩ := u_152c (d := d) h (p := 1) (by omega) (by omega) (by omega)
  rw [e2, Option.bind_some]
  dsimp only
  have h3 := w_clr h2
  rw [ax_let]
  obtain ⟨M4, e4, h4⟩ := u_75 (d := d) h3 (a := 408) (b := 0) (by have := ok'.1; show (sWk 1 s).cs.length < 400; omega)
  rw [e4, Option.bind_some]
  dsimp only
  have h5 := w_nc h4 n24
  rw [h4.nc, ax_w32 (by show _ ≤ (s.nc : Int) + 1; omega) (by show (s.nc : Int) + 1 < _; omega), ax_let]
  obtain ⟨M6, e6, h6⟩ := u_194 nx h5 hl
  rw [e6, Option.bind_some]
  dsimp only
  exact ⟨_, rfl, w_st h6⟩
theorem u_fin {k : Int × am_M → Option (Int × am_M)} {y : Option (Int × am_M)} {r : Int} {M' : am_M} (h : y = some (r, M')) : y.bind k = k (r, M') := by rw [h]; rfl
/-! the state 0: an ask -/
theorem g0_not (nx : NX N0 T S I P Q d) (hs : s.st = 0) (hk : S s.j = 1 ∧ I s.j = 18) (ok : okS s) (o8 : s.op < 8) (hl : s.j + 1 < T) : Go N0 T S I P Q d s (sOpen 3 s) := fun M h => by
  rw [x_0 h hs, aq_246, ax_o_447, ax_gt, u_73 h, Option.bind_some]
  dsimp only
  rw [ax_bt hk, if_neg (by decide)]
  obtain ⟨M2, e2, h2⟩ := u_217 nx h (k := 3) (by decide) ok o8 hl
  rw [e2]
  exact ⟨M2, h2, rfl⟩
theorem g0_err (hs : s.st = 0) (hk : S s.j = 1 ∧ I s.j = 18) (o8 : s.op = 8) : GoE N0 T S I P Q d s (3, P s.j, s.nc) := fun M h => by
  rw [x_0 h hs, aq_246, ax_o_447, ax_gt, u_73 h, Option.bind_some]
  dsimp only
  rw [ax_bt hk, if_neg (by decide)]
  obtain ⟨M2, e2, h2⟩ := u_217e (d := d) h (k := 3) o8
  rw [e2]
  exact ⟨M2, h2, rfl⟩
theorem g0_go (hs : s.st = 0) (hk : ¬ (S s.j = 1 ∧ I s.j = 18)) (ok : okS s) : Go N0 T S I P Q d s (sSt 1 (sFs ((4, 0) :: s.fs) s)) := fun M h => by
  obtain ⟨k1, k2, k3, k4, k5⟩ := ok
  rw [x_0 h hs, aq_246, ax_o_447, ax_gt, u_73 h, Option.bind_some]
  dsimp only
  rw [ax_bf hk, if_pos rfl]
  obtain ⟨M2, e2, h2⟩ := u_76 (d := d) h (k := 4) (z := 0) (by decide) (by omega)
  rw [e2]
  exact ⟨_, w_st h2, rfl⟩
/-! the state 3: behind an ask -/
theorem g3_or (nx : NX N0 T S I P Q d) (hs : s.st = 3) (hk : S s.j = 1 ∧ I s.j = 16) (ok : okS s) (hl : s.j + 1 < T) : Go N0 T S I P Q d s (sSt 0 (sWt 407 s)) := fun M h => by
  rw [x_3 h hs, aq_249, ax_o_447, ax_gt, u_73 h, Option.bind_some]
  dsimp only
  rw [ax_bt hk, if_neg (by decide), aq_249_9, ax_o_447, ax_gt, u_73 h, Option.bind_some]
  dsimp only
  rw [ax_bt hk, if_neg (by decide)]
  obtain ⟨M2, e2, h2⟩ := u_218 nx h (g := 407) ok hl
  rw [e2]
  exact ⟨_, w_st h2, rfl⟩
theorem g3_and (nx : NX N0 T S I P Q d) (hs : s.st = 3) (hk : S s.j = 1 ∧ I s.j = 17) (ok : okS s) (hl : s.j + 1 < T) : Go N0 T S I P Q d s (sSt 0 (sWt 406 s)) := fun M h => by
  rw [x_3 h hs, aq_249, ax_o_447, ax_gt, u_73 h, Option.bind_some]
  dsimp only
  rw [ax_bf (by omega), if_pos rfl, u_73 h, Option.bind_some]
  dsimp only
  rw [ax_bt hk, if_neg (by decide), aq_249_9, ax_o_447, ax_gt, u_73 h, Option.bind_some]
  dsimp only
  rw [ax_bf (by omega), if_pos rfl]
  obtain ⟨M2, e2, h2⟩ := u_218 nx h (g := 406) ok hl
  rw [e2]
  exact ⟨_, w_st h2, rfl⟩
theorem g3_over (nx : NX N0 T S I P Q d) (hs : s.st = 3) (hk : S s.j = 3 ∧ I s.j = 59) {z : Int} {l : List (Int × Int)} (hf : s.fs = (2, z) :: l) (ok : okS s) (n24 : s.nc < 24) (hl : s.j + 1 < T) : Go N0 T S I P Q d s (sOver s) := fun M h => by
  have fl : l.length < 39 := by have := ok.2.1; rw [hf] at this; simp only [List.length_cons] at this; omega
  rw [x_3 h hs, aq_249, ax_o_447, ax_gt, u_73 h, Option.bind_some]
  dsimp only
  rw [ax_bf (by omega), if_pos rfl, u_73 h, Option.bind_some]
  dsimp only
  rw [ax_bf (by omega), if_pos rfl, u_77 h hf fl, Option.bind_some]
  dsimp only
  rw [if_pos rfl, u_72 h, Option.bind_some]
  dsimp only
  rw [ax_bt hk, if_neg (by decide)]
  obtain ⟨M2, e2, h2⟩ := u_219 nx h ok n24 hl
  rw [e2]
  exact ⟨_, h2, rfl⟩
theorem g3_err (hs : s.st = 3) (hk : ¬ (S s.j = 1 ∧ I s.j = 16)) (hk2 : ¬ (S s.j = 1 ∧ I s.j = 17)) (hk3 : ¬ (S s.j = 3 ∧ I s.j = 59)) {z : Int} {l : List (Int × Int)} (hf : s.fs = (2, z) :: l) (ok : okS s) : GoE N0 T S I P Q d s (1, P s.j, s.nc) := fun M h => by
  have fl : l.length < 39 := by have := ok.2.1; rw [hf] at this; simp only [List.length_cons] at this; omega
  rw [x_3 h hs, aq_249, ax_o_447, ax_gt, u_73 h, Option.bind_some]
  dsimp only
  rw [ax_bf hk, if_pos rfl, u_73 h, Option.bind_some]
  dsimp only
  rw [ax_bf hk2, if_pos rfl, u_77 h hf fl, Option.bind_some]
  dsimp only
  rw [if_pos rfl, u_72 h, Option.bind_some]
  dsimp only
  rw [ax_bf hk3, if_pos rfl, aq_249_34, ax_o_447, ax_gt]
  obtain ⟨M2, e2, h2⟩ := u_74 (d := d) h (x := 1) (by decide)
  rw [e2]
  exact ⟨_, h2, rfl⟩
end
