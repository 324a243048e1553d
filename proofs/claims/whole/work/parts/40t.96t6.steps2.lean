/-! the model's parser: values, and what is behind them -/
section
variable {N0 : am_M} {T : Nat} {S I P Q : Int → Int} {d : Nat} {M : am_M} {s s' s2 : PS} {e : Int × Int × Nat}
/-- where words stand -/
def wrd (S I : Int → Int) (j : Int) : Prop := S j = 1 → 0 ≤ I j ∧ I j ≤ 28
theorem g1_num (nx : NX N0 T S I P Q d) (hs : s.st = 1) (hw : wrd S I s.j) (hk : S s.j = 2) (hv : I s.j ≤ 9999) (ok : okS s) (hf : (oneL s.fs ((400, I s.j) :: s.cs) s.op).1 ≠ []) (hl : s.j + 1 < T) : Go N0 T S I P Q d s (sOne (sJ (sCs ((400, I s.j) :: s.cs) s))) := fun M h => by
  obtain ⟨k1, k2, k3, k4, k5⟩ := ok
  rw [x_1 h hs, aq_247, ax_o_447, ax_gt, u_80 h hw, Option.bind_some]
  dsimp only
  rw [h.so, if_pos hk, h.is, if_pos hv]
  obtain ⟨M2, e2, h2⟩ := u_75 (d := d) h (a := 400) (b := I s.j) (by omega)
  rw [e2, Option.bind_some]
  dsimp only
  obtain ⟨M3, e3, h3⟩ := u_194 nx h2 hl
  rw [e3, Option.bind_some]
  dsimp only
  obtain ⟨M4, e4, h4⟩ := u_153c (d := d) h3 (by show s.cs.length + 1 + s.fs.length < 400; omega) (by show s.fs.length < 40; omega) (by show (s.fs.length : Int) ≤ s.op + 50; omega) (by show s.op ≤ 100; omega) hf
  rw [e4]
  exact ⟨_, h4, rfl⟩
theorem g1_big (hs : s.st = 1) (hw : wrd S I s.j) (hk : S s.j = 2) (hv : ¬ I s.j ≤ 9999) : GoE N0 T S I P Q d s (2, P s.j, s.nc) := fun M h => by
  rw [x_1 h hs, aq_247, ax_o_447, ax_gt, u_80 h hw, Option.bind_some]
  dsimp only
  rw [h.so, if_pos hk, h.is, if_neg hv]
  obtain ⟨M2, e2, h2⟩ := u_74 (d := d) h (x := 2) (by decide)
  rw [e2]
  exact ⟨_, h2, rfl⟩
theorem g1_name (nx : NX N0 T S I P Q d) (hs : s.st = 1) (hw : wrd S I s.j) (hk : S s.j = 1 ∧ 19 < I s.j) (hv : mayN (I s.j - 20) s.nk ≠ 0) (ok : okS s) (hf : (oneL s.fs ((401, I s.j - 20) :: s.cs) s.op).1 ≠ []) (hl : s.j + 1 < T) : Go N0 T S I P Q d s (sOne (sJ (sCs ((401, I s.j - 20) :: s.cs) s))) := fun M h => by
  obtain ⟨k1, k2, k3, k4, k5⟩ := ok
  rw [x_1 h hs, aq_247, ax_o_447, ax_gt, u_80 h hw, Option.bind_some]
  dsimp only
  rw [h.so, if_neg (by omega), if_pos hk, if_neg (by omega), h.nk, u_79, Option.bind_some]
  dsimp only
  rw [if_neg hv]
  obtain ⟨M2, e2, h2⟩ := u_75 (d := d) h (a := 401) (b := I s.j - 20) (by omega)
  rw [e2, Option.bind_some]
  dsimp only
  obtain ⟨M3, e3, h3⟩ := u_194 nx h2 hl
  rw [e3, Option.bind_some]
  dsimp only
  obtain ⟨M4, e4, h4⟩ := u_153c (d := d) h3 (by show s.cs.length + 1 + s.fs.length < 400; omega) (by show s.fs.length < 40; omega) (by show (s.fs.length : Int) ≤ s.op + 50; omega) (by show s.op ≤ 100; omega) hf
  rw [e4]
  exact ⟨_, h4, rfl⟩
theorem g1_nmE (hs : s.st = 1) (hw : wrd S I s.j) (hk : S s.j = 1 ∧ 19 < I s.j) (hv : mayN (I s.j - 20) s.nk = 0) : GoE N0 T S I P Q d s (5, P s.j, s.nc) := fun M h => by
  rw [x_1 h hs, aq_247, ax_o_447, ax_gt, u_80 h hw, Option.bind_some]
  dsimp only
  rw [h.so, if_neg (by omega), if_pos hk, if_neg (by omega), h.nk, u_79, Option.bind_some]
  dsimp only
  rw [if_pos hv]
  obtain ⟨M2, e2, h2⟩ := u_74 (d := d) h (x := 5) (by decide)
  rw [e2]
  exact ⟨_, h2, rfl⟩
/-- the four ways that are no value -/
def opn (S I : Int → Int) (j : Int) : Int := if S j = 3 ∧ I j = 40 then 6 else if S j = 3 ∧ I j = 45 then 7 else if S j = 1 ∧ I j = 19 then 8 else 0
theorem u_247o (h : PM N0 T S I P Q s M) (hw : wrd S I s.j) (hk : S s.j ≠ 2) (hk2 : ¬ (S s.j = 1 ∧ 19 < I s.j)) : am_Call d 247 [(2, 447)] M = if opn S I s.j = 0 then (am_Call d 74 [(2, 447), (0, 1)] M).bind fun r => some (0, r.2) else (am_Call d 217 [(2, 447), (0, opn S I s.j)] M).bind fun r => some (0, r.2) := by
  rw [aq_247, ax_o_447, ax_gt, u_80 h hw, Option.bind_some]
  dsimp only
  rw [h.so, if_neg hk, if_neg hk2, if_pos rfl, u_72 h, Option.bind_some]
  dsimp only
  unfold opn
  by_cases a : S s.j = 3 ∧ I s.j = 40
  · rw [if_pos a, ax_bt a, if_neg (by decide), if_neg (by decide)]
  · rw [if_neg a, ax_bf a, if_pos rfl, u_72 h, Option.bind_some]
    dsimp only
    by_cases b : S s.j = 3 ∧ I s.j = 45
    · rw [if_pos b, ax_bt b, if_neg (by decide), if_neg (by decide), aq_247_64, ax_o_447, ax_gt, u_72 h, Option.bind_some]
      dsimp only
      rw [ax_bt b, if_neg (by decide)]
    · rw [if_neg b, ax_bf b, if_pos rfl, u_73 h, Option.bind_some]
      dsimp only
      by_cases c : S s.j = 1 ∧ I s.j = 19
      · rw [if_pos c, ax_bt c, if_neg (by decide), if_neg (by decide), aq_247_64, ax_o_447, ax_gt, u_72 h, Option.bind_some]
        dsimp only
        rw [ax_bf b, if_pos rfl]
      · rw [if_neg c, ax_bf c, if_pos rfl, if_pos rfl]
theorem g1_open (nx : NX N0 T S I P Q d) (hs : s.st = 1) (hw : wrd S I s.j) (hk : S s.j ≠ 2) (hk2 : ¬ (S s.j = 1 ∧ 19 < I s.j)) (hk3 : opn S I s.j ≠ 0) (ok : okS s) (o8 : s.op < 8) (hl : s.j + 1 < T) : Go N0 T S I P Q d s (sOpen (opn S I s.j) s) := fun M h => by
  rw [x_1 h hs, u_247o h hw hk hk2, if_neg hk3]
  have h5 : opn S I s.j ≠ 5 := by unfold opn; split; decide; split; decide; split <;> decide
  obtain ⟨M2, e2, h2⟩ := u_217 nx h h5 ok o8 hl
  rw [e2]
  exact ⟨_, h2, rfl⟩
theorem g1_opnE (hs : s.st = 1) (hw : wrd S I s.j) (hk : S s.j ≠ 2) (hk2 : ¬ (S s.j = 1 ∧ 19 < I s.j)) (hk3 : opn S I s.j ≠ 0) (o8 : s.op = 8) : GoE N0 T S I P Q d s (3, P s.j, s.nc) := fun M h => by
  rw [x_1 h hs, u_247o h hw hk hk2, if_neg hk3]
  obtain ⟨M2, e2, h2⟩ := u_217e (d := d) h (k := opn S I s.j) o8
  rw [e2]
  exact ⟨_, h2, rfl⟩
theorem g1_err (hs : s.st = 1) (hw : wrd S I s.j) (hk : S s.j ≠ 2) (hk2 : ¬ (S s.j = 1 ∧ 19 < I s.j)) (hk3 : opn S I s.j = 0) : GoE N0 T S I P Q d s (1, P s.j, s.nc) := fun M h => by
  rw [x_1 h hs, u_247o h hw hk hk2, if_pos hk3]
  obtain ⟨M2, e2, h2⟩ := u_74 (d := d) h (x := 1) (by decide)
  rw [e2]
  exact ⟨_, h2, rfl⟩
/-! the state 2 -/
def ari (S I : Int → Int) (j : Int) : Prop := S j = 3 ∧ (I j = 43 ∨ I j = 45 ∨ I j = 42 ∨ I j = 47)
theorem g2_sign (nx : NX N0 T S I P Q d) (hs : s.st = 2) (hk : ari S I s.j) {z : Int × Int} {l : List (Int × Int)} (hf : s.fs = z :: l) (ok : okS s) (hl : s.j + 1 < T) : Go N0 T S I P Q d s (sSt 1 (sWt (I s.j) s)) := fun M h => by
  have fl : l.length < 39 := by have := ok.2.1; rw [hf] at this; simp only [List.length_cons] at this; omega
  obtain ⟨q1, q2⟩ := hk
  rw [x_2 h hs, aq_248, ax_o_447, ax_gt, u_77 h hf fl, Option.bind_some]
  dsimp only
  rw [h.so, if_pos q1, h.is]
  have b : ∃ M', PM N0 T S I P Q (sSt 1 (sWt (I s.j) s)) M' ∧ ((am_Ex d 248 24 [(2, 447), am_N, am_N] [] M).bind fun r => Ex45 d r.2) = Ex45 d M' := by
    rw [aq_248_24, ax_o_447, ax_gt, h.is]
    obtain ⟨M2, e2, h2⟩ := u_218 nx h (g := I s.j) ok hl
    rw [e2]
    exact ⟨_, w_st h2, rfl⟩
  by_cases a1 : I s.j = 43
  · rw [if_pos a1]; exact b
  · rw [if_neg a1]
    by_cases a2 : I s.j = 45
    · rw [if_pos a2]; exact b
    · rw [if_neg a2]
      by_cases a3 : I s.j = 42
      · rw [if_pos a3]; exact b
      · rw [if_neg a3, if_pos (by omega)]; exact b
theorem u_248n (h : PM N0 T S I P Q s M) (hk : ¬ ari S I s.j) {z : Int × Int} {l : List (Int × Int)} (hf : s.fs = z :: l) (ok : okS s) : am_Call d 248 [(2, 447)] M = am_Ex d 248 33 [(2, 447), (0, z.1), am_N] [] M := by
  have fl : l.length < 39 := by have := ok.2.1; rw [hf] at this; simp only [List.length_cons] at this; omega
  unfold ari at hk
  rw [aq_248, ax_o_447, ax_gt, u_77 h hf fl, Option.bind_some]
  dsimp only
  rw [h.so, h.is]
  by_cases a : S s.j = 3
  · rw [if_pos a, if_neg (by omega), if_neg (by omega), if_neg (by omega), if_neg (by omega)]
  · rw [if_neg a]
theorem g2_close (nx : NX N0 T S I P Q d) (hs : s.st = 2) (hk : S s.j = 3 ∧ I s.j = 41) {z : Int} {l : List (Int × Int)} (hf : s.fs = (6, z) :: l) (ok : okS s) (h1 : (oneL l (sWk 3 s).cs (s.op - 1)).1 ≠ []) (hl : s.j + 1 < T) : Go N0 T S I P Q d s (sOne (sJ (sOp (s.op - 1) (sFs l (sWk 3 s))))) := fun M h => by
  have ok' := okS_wk (p := 3) ok
  rw [x_2 h hs, u_248n h (by unfold ari; omega) hf ok, aq_248_33, if_pos rfl, ax_o_447, ax_gt, u_72 h, Option.bind_some]
  dsimp only
  rw [ax_bt hk, if_neg (by decide)]
  obtain ⟨k1, k2, k3, k4, k5⟩ := ok
  have el : s.fs.length = l.length + 1 := by rw [hf]; rfl
  obtain ⟨M2, e2, h2⟩ := u_152c (d := d) h (p := 3) (by omega) (by omega) (by omega)
  rw [e2, Option.bind_some]
  dsimp only
  have h3 := w_pop h2 (z := (6, z)) (l := l) hf
  have fn : am_rd M2 447 22 = (s.fs.length : Int) := h2.fn
  rw [fn, ax_w32 (x := (s.fs.length : Int) - 1) (by omega) (by omega), show (s.fs.length : Int) - 1 = (l.length : Int) by omega, ax_let]
  have h4 := w_op h3 (v := s.op - 1)
  have on : am_rd (am_wr M2 447 22 (l.length : Int)) 447 21 = s.op := h3.op
  rw [on, ax_w32 (x := s.op - 1) (by omega) (by omega), ax_let]
  obtain ⟨M5, e5, h5⟩ := u_194 nx h4 hl
  rw [e5, Option.bind_some]
  dsimp only
  obtain ⟨M6, e6, h6⟩ := u_153c (d := d) h5 (by have := ok'.1; show (sWk 3 s).cs.length + l.length < 400; have : (sWk 3 s).fs.length = s.fs.length := rfl; omega) (by show l.length < 40; omega) (by show (l.length : Int) ≤ s.op - 1 + 50; omega) (by show s.op - 1 ≤ 100; omega) h1
  rw [e6]
  exact ⟨_, h6, rfl⟩
theorem g2_cmp (nx : NX N0 T S I P Q d) (hs : s.st = 2) (hk : S s.j = 3 ∧ isQ (I s.j) ≠ 0) {z : Int} {l : List (Int × Int)} (hf : s.fs = (4, z) :: l) (ok : okS s) (hl : s.j + 1 < T) : Go N0 T S I P Q d s (sSt 1 (sJ (sFs ((5, I s.j) :: l) (sWk 3 s)))) := fun M h => by
  have na : ¬ ari S I s.j := by
    intro q
    apply hk.2
    unfold isQ
    obtain ⟨q1, q2⟩ := q
    rcases q2 with q | q | q | q <;> (rw [q]; rfl)
  rw [x_2 h hs, u_248n h na hf ok, aq_248_33, if_neg (show ¬ (4 : Int) = 6 by decide), aq_248_61, if_pos rfl, ax_o_447, ax_gt, h.so, if_pos hk.1, h.is, u_81, Option.bind_some]
  dsimp only
  rw [if_neg hk.2]
  obtain ⟨k1, k2, k3, k4, k5⟩ := ok
  have el : s.fs.length = l.length + 1 := by rw [hf]; rfl
  obtain ⟨M2, e2, h2⟩ := u_152c (d := d) h (p := 3) (by omega) (by omega) (by omega)
  rw [e2, Option.bind_some]
  dsimp only
  have fn : am_rd M2 447 22 = (l.length : Int) + 1 := h2.fn.trans (by show (s.fs.length : Int) = _; omega)
  rw [kr_447_24 h2.hK, fn, ax_a_460, ax_gi (by omega) (by omega), h2.is, ax_let]
  have K1 : ax_K (am_wr M2 460 ((l.length : Int) + 1) (I (sWk 3 s).j)) := m_wa h2.hK (by omega) (by omega)
  rw [kr_447_23 K1, show am_rd (am_wr M2 460 ((l.length : Int) + 1) (I (sWk 3 s).j)) 447 22 = (l.length : Int) + 1 from (ax_wc (by decide)).trans fn, ax_w32 (by omega) (by omega), show (l.length : Int) + 1 - 1 = (l.length : Int) by omega, ax_a_459, ax_gi (by omega) (by omega), ax_let]
  have h3 := w_cmp h2 (k := 4) (z := I (sWk 3 s).j) (u := z) (l := l) hf
  obtain ⟨M5, e5, h5⟩ := u_194 nx h3 hl
  rw [e5, Option.bind_some]
  dsimp only
  exact ⟨_, w_st h5, rfl⟩
theorem g2_ask (hs : s.st = 2) (hk : ¬ ari S I s.j) {z : Int} {l : List (Int × Int)} (hf : s.fs = (5, z) :: l) (ok : okS s) (h1 : (askL l ((z, 0) :: (sWk 3 s).cs) s.op).1 ≠ []) : Go N0 T S I P Q d s (sAsk (sCs ((z, 0) :: (sWk 3 s).cs) (sFs l (sWk 3 s)))) := fun M h => by
  have ok' := okS_wk (p := 3) ok
  rw [x_2 h hs, u_248n h hk hf ok, aq_248_33, if_neg (show ¬ (5 : Int) = 6 by decide), aq_248_61, if_neg (show ¬ (5 : Int) = 4 by decide), aq_248_97, if_pos rfl, ax_o_447, ax_gt]
  obtain ⟨k1, k2, k3, k4, k5⟩ := ok
  have el : s.fs.length = l.length + 1 := by rw [hf]; rfl
  obtain ⟨M2, e2, h2⟩ := u_152c (d := d) h (p := 3) (by omega) (by omega) (by omega)
  rw [e2, Option.bind_some]
  dsimp only
  have fn : am_rd M2 447 22 = (l.length : Int) + 1 := h2.fn.trans (by show (s.fs.length : Int) = _; omega)
  have hz : am_rd M2 460 ((l.length : Int) + 1) = z := ((hf ▸ h2.fs : FST M2 ((5, z) :: l)).2.1) rfl
  rw [kr_447_24 h2.hK, fn, ax_a_460, ax_gi (by omega) (by omega), hz, ax_let, ax_w32 (by omega) (by omega), show (l.length : Int) + 1 - 1 = (l.length : Int) by omega, ax_let]
  have h3 := w_pop h2 (z := (5, z)) (l := l) hf
  obtain ⟨M5, e5, h5⟩ := u_75 (d := d) h3 (a := z) (b := 0) (by have := ok'.1; show (sWk 3 s).cs.length < 400; omega)
  rw [e5, Option.bind_some]
  dsimp only
  obtain ⟨M6, e6, h6⟩ := u_154c (d := d) h5 (by have := ok'.1; have : (sWk 3 s).fs.length = s.fs.length := rfl; show (sWk 3 s).cs.length + 1 + l.length < 400; omega) (by show l.length < 40; omega) (by show (l.length : Int) ≤ s.op + 50; omega) (by show s.op ≤ 100; omega) h1
  rw [e6]
  exact ⟨_, h6, rfl⟩
theorem g2_over (nx : NX N0 T S I P Q d) (hs : s.st = 2) (hk : S s.j = 3 ∧ I s.j = 59) {z : Int} {l : List (Int × Int)} (hf : s.fs = (1, z) :: l) (ok : okS s) (n24 : s.nc < 24) (hl : s.j + 1 < T) : Go N0 T S I P Q d s (sOver s) := fun M h => by
  rw [x_2 h hs, u_248n h (by unfold ari; omega) hf ok, aq_248_33, if_neg (show ¬ (1 : Int) = 6 by decide), aq_248_61, if_neg (show ¬ (1 : Int) = 4 by decide), aq_248_97, if_neg (show ¬ (1 : Int) = 5 by decide), if_pos rfl, ax_o_447, ax_gt, u_72 h, Option.bind_some]
  dsimp only
  rw [ax_bt hk, if_neg (by decide)]
  obtain ⟨M2, e2, h2⟩ := u_219 nx h ok n24 hl
  rw [e2]
  exact ⟨_, h2, rfl⟩
theorem g2_err (hs : s.st = 2) (hk : ¬ ari S I s.j) {z : Int × Int} {l : List (Int × Int)} (hf : s.fs = z :: l) (h6 : z.1 = 6 → ¬ (S s.j = 3 ∧ I s.j = 41)) (h4 : z.1 = 4 → ¬ (S s.j = 3 ∧ isQ (I s.j) ≠ 0)) (h5 : z.1 ≠ 5) (h1 : z.1 = 1 → ¬ (S s.j = 3 ∧ I s.j = 59)) (ok : okS s) : GoE N0 T S I P Q d s (1, P s.j, s.nc) := fun M h => by
  rw [x_2 h hs, u_248n h hk hf ok]
  have b : ∃ M', PN N0 (1, P s.j, s.nc) M' ∧ ((am_Ex d 248 133 [(2, 447), am_N, am_N] [] M).bind fun r => Ex45 d r.2) = Ex45 d M' := by
    rw [aq_248_133, ax_o_447, ax_gt]
    obtain ⟨M2, e2, h2⟩ := u_74 (d := d) h (x := 1) (by decide)
    rw [e2]
    exact ⟨_, h2, rfl⟩
  have b97 : ∃ M', PN N0 (1, P s.j, s.nc) M' ∧ ((am_Ex d 248 97 [(2, 447), (0, z.1), am_N] [] M).bind fun r => Ex45 d r.2) = Ex45 d M' := by
    rw [aq_248_97, if_neg h5]
    by_cases a : z.1 = 1
    · rw [if_pos a, ax_o_447, ax_gt, u_72 h, Option.bind_some]
      dsimp only
      rw [ax_bf (h1 a), if_pos rfl]; exact b
    · rw [if_neg a]; exact b
  have b61 : ∃ M', PN N0 (1, P s.j, s.nc) M' ∧ ((am_Ex d 248 61 [(2, 447), (0, z.1), am_N] [] M).bind fun r => Ex45 d r.2) = Ex45 d M' := by
    rw [aq_248_61]
    by_cases a : z.1 = 4
    · rw [if_pos a, ax_o_447, ax_gt, h.so]
      by_cases q : S s.j = 3
      · rw [if_pos q, h.is, u_81, Option.bind_some]
        dsimp only
        rw [if_pos (by have := h4 a; omega)]; exact b97
      · rw [if_neg q]; exact b97
    · rw [if_neg a]; exact b97
  rw [aq_248_33]
  by_cases a : z.1 = 6
  · rw [if_pos a, ax_o_447, ax_gt, u_72 h, Option.bind_some]
    dsimp only
    rw [ax_bf (h6 a), if_pos rfl]; exact b61
  · rw [if_neg a]; exact b61
end
