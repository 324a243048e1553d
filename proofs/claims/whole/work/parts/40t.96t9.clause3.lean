/-! the model's parser: the state 4 -/
section
variable {N0 : am_M} {T : Nat} {S I P Q : Int → Int} {d : Nat} {M : am_M} {s s' s2 : PS} {e : Int × Int × Nat} {y : MX}
/-- a clause is begun -/
def sBeg (k : Int) (s : PS) : PS := sJ (s_po s.nc (s.cs.length : Int) (s_kd s.nc k (sNk k s)))
def toldL (s : PS) (k : Int) : Prop := k ≤ 3 ∧ ∃ j : Int, 0 ≤ j ∧ j < (s.nc : Int) ∧ s.kd j = k
theorem g4_err (hs : s.st = 4) (h0 : S s.j ≠ 0) (hk : ¬ (S s.j = 1 ∧ I s.j ≤ 11)) : GoE N0 T S I P Q d s (1, P s.j, s.nc) := fun M h => by
  rw [x_4 h hs h0, aq_281, ax_o_447, ax_gt, h.so]
  have b : ∃ M', PN N0 (1, P s.j, s.nc) M' ∧ ((am_Ex d 281 9 [(2, 447)] [] M).bind fun r => Ex45 d r.2) = Ex45 d M' := by
    rw [aq_281_9, ax_o_447, ax_gt]
    obtain ⟨M2, e2, h2⟩ := u_74 (d := d) h (x := 1) (by decide)
    rw [e2]
    exact ⟨_, h2, rfl⟩
  by_cases a : S s.j = 1
  · rw [if_pos a, h.is, if_neg (by omega)]; exact b
  · rw [if_neg a]; exact b
/-- a fault ends the clause -/
theorem u_281e (h : PN N0 e M) : am_Ex d 281 39 [(2, 447)] [] M = some (0, M) := by
  have := h.w0
  rw [aq_281_39, ax_o_447, ax_gt, if_neg (by rw [h.wr]; omega)]
/-- up to where the clause is begun -/
theorem u_281 (h : PM N0 T S I P Q s M) (hk : S s.j = 1 ∧ I s.j ≤ 11) : ∃ M', PM N0 T S I P Q (sNk (I s.j) s) M' ∧ (toldL s (I s.j) → am_Call d 281 [(2, 447)] M = (am_Call d 74 [(2, 447), (0, 4)] M').bind fun r108 => am_Ex d 281 39 [(2, 447)] [] r108.2) ∧ (¬ toldL s (I s.j) → am_Call d 281 [(2, 447)] M = am_Ex d 281 31 [(2, 447)] [] M') := by
  have h1 := w_nk h (v := I s.j)
  refine ⟨_, h1, ?_⟩
  rw [aq_281, ax_o_447, ax_gt, h.so, if_pos hk.1, h.is, if_pos hk.2, ax_let, show am_rd (am_wr M 447 30 (I s.j)) 447 30 = I s.j from ax_ws]
  by_cases k3 : I s.j ≤ 3
  · obtain ⟨r, e, hr, hr2⟩ := u_82 (d := d) h1 (k := I s.j) s.nc 0 0 (by omega) (by show (0 : Int) + (s.nc : Int) = (s.nc : Int); omega) (Or.inl rfl)
    have e' : am_Call d 82 [(2, 447), (0, I s.j)] (am_wr M 447 30 (I s.j)) = some (r, am_wr M 447 30 (I s.j)) := by rw [aq_82]; exact e
    rw [if_pos k3, e', Option.bind_some]
    dsimp only
    refine ⟨fun t => ?_, fun t => ?_⟩
    · obtain ⟨_, j, j0, j1, j2⟩ := t
      rw [if_neg fun q => (hr2.mp q).2 j j0 j1 j2]
    · rw [if_pos (hr2.mpr ⟨rfl, fun j j0 j1 j2 => t ⟨k3, j, j0, j1, j2⟩⟩)]
  · rw [if_neg k3]
    exact ⟨fun t => absurd t.1 k3, fun _ => rfl⟩
theorem g4_told (hs : s.st = 4) (hk : S s.j = 1 ∧ I s.j ≤ 11) (ht : toldL s (I s.j)) : GoE N0 T S I P Q d s (4, P s.j, s.nc) := fun M h => by
  rw [x_4 h hs (by omega)]
  obtain ⟨M1, h1, e1, _⟩ := u_281 (d := d) h hk
  rw [e1 ht]
  obtain ⟨M2, e2, h2⟩ := u_74 (d := d) h1 (x := 4) (by decide)
  rw [e2, Option.bind_some]
  dsimp only
  rw [u_281e h2]
  exact ⟨_, h2, rfl⟩
theorem g4_full (hs : s.st = 4) (hk : S s.j = 1 ∧ I s.j ≤ 11) (ht : ¬ toldL s (I s.j)) (n24 : s.nc = 24) : GoE N0 T S I P Q d s (6, P s.j, s.nc) := fun M h => by
  rw [x_4 h hs (by omega)]
  obtain ⟨M1, h1, _, e1⟩ := u_281 (d := d) h hk
  rw [e1 ht, aq_281_31, ax_o_447, ax_gt, h1.nc, if_pos (by show (s.nc : Int) = 24; omega)]
  obtain ⟨M2, e2, h2⟩ := u_74 (d := d) h1 (x := 6) (by decide)
  rw [e2, Option.bind_some]
  dsimp only
  rw [u_281e h2]
  exact ⟨_, h2, rfl⟩
/-- a clause is begun: what then is left -/
theorem u_281b (nx : NX N0 T S I P Q d) (h : PM N0 T S I P Q s M) (hk : S s.j = 1 ∧ I s.j ≤ 11) (ht : ¬ toldL s (I s.j)) (n24 : s.nc < 24) (hl : s.j + 1 < T) : ∃ M', PM N0 T S I P Q (sBeg (I s.j) s) M' ∧ am_Call d 281 [(2, 447)] M = (if I s.j ≤ 3 then (if I s.j = 0 then ((am_Call d 76 [(2, 447), (0, 2)] M').bind fun r110 => if am_rd r110.2 447 30 = 0 then (am_let (am_wr r110.2 447 28 0) fun M112 => some (0, M112)) else (am_let (am_wr r110.2 447 28 1) fun M113 => some (0, M113))) else ((am_Call d 76 [(2, 447), (0, 1)] M').bind fun r114 => if am_rd r114.2 447 30 = 0 then (am_let (am_wr r114.2 447 28 0) fun M116 => some (0, M116)) else (am_let (am_wr r114.2 447 28 1) fun M117 => some (0, M117)))) else ((am_Call d 264 [(2, 447)] M').bind fun r118 => if am_rd r118.2 447 19 = 0 then ((am_Call d 72 [(2, 447), (0, 59)] r118.2).bind fun r120 => if r120.1 = 0 then ((am_Call d 74 [(2, 447), (0, 1)] r120.2).bind fun r122 => am_Ex d 281 93 [(2, 447)] [] r122.2) else (am_Ex d 281 93 [(2, 447)] [] r120.2)) else (am_Ex d 281 93 [(2, 447)] [] r118.2))) := by
  obtain ⟨M1, h1, _, e1⟩ := u_281 (d := d) h hk
  have hn : am_rd M1 447 29 = (s.nc : Int) := h1.nc
  have h2 := w_kd h1 (j := s.nc) (v := I s.j)
  have h3 := w_po h2 (j := s.nc) (v := (s.cs.length : Int))
  have hk1 : am_rd M1 447 30 = I s.j := h1.nk
  have K2 := h2.hK
  have w2 : ∀ i, am_rd (am_wr M1 463 (s.nc : Int) (I s.j)) 447 i = am_rd M1 447 i := fun i => ax_wc (by decide)
  rw [e1 ht, aq_281_31, ax_o_447, ax_gt, hn, if_neg (by omega), aq_281_39, ax_o_447, ax_gt, h1.wr, if_pos (by decide), kr_447_31 h1.hK, hn, hk1, ax_a_463, ax_gi (by omega) (by omega), ax_let, kr_447_32 K2, w2 29, hn, w2 36, ax_a_464, ax_gi (by omega) (by omega), show am_rd M1 447 36 = (s.cs.length : Int) from h1.on, ax_let]
  obtain ⟨M4, e4, h4⟩ := u_194 nx h3 hl
  rw [e4, Option.bind_some]
  dsimp only
  have hk4 : am_rd M4 447 30 = I s.j := h4.nk
  rw [hk4]
  exact ⟨M4, h4, rfl⟩
theorem g4_law (nx : NX N0 T S I P Q d) (hs : s.st = 4) (hk : S s.j = 1 ∧ I s.j ≤ 3) (ht : ¬ toldL s (I s.j)) (n24 : s.nc < 24) (hf : s.fs = []) (hl : s.j + 1 < T) : Go N0 T S I P Q d s (sSt (if I s.j = 0 then 0 else 1) (sFs [(if I s.j = 0 then 2 else 1, 0)] (sBeg (I s.j) s))) := fun M h => by
  rw [x_4 h hs (by omega)]
  obtain ⟨M1, h1, e1⟩ := u_281b nx h ⟨hk.1, by omega⟩ ht n24 hl
  rw [e1, if_pos hk.2]
  have hf1 : (sBeg (I s.j) s).fs = [] := hf
  by_cases z : I s.j = 0
  · rw [if_pos z, if_pos z, if_pos z]
    obtain ⟨M2, e2, h2⟩ := u_76 (d := d) h1 (k := 2) (z := 0) (by decide) (by rw [hf1]; decide)
    rw [e2, Option.bind_some]
    dsimp only
    rw [show am_rd M2 447 30 = I s.j from h2.nk, if_pos z]
    rw [hf1] at h2
    exact ⟨_, w_st h2, rfl⟩
  · rw [if_neg z, if_neg z, if_neg z]
    obtain ⟨M2, e2, h2⟩ := u_76 (d := d) h1 (k := 1) (z := 0) (by decide) (by rw [hf1]; decide)
    rw [e2, Option.bind_some]
    dsimp only
    rw [show am_rd M2 447 30 = I s.j from h2.nk, if_neg z]
    rw [hf1] at h2
    exact ⟨_, w_st h2, rfl⟩
/-- a deed: its numbers, then ; -/
def mSemi (S I P : Int → Int) (s : PS) : MX := if S s.j = 3 ∧ I s.j = 59 then .ok (sOver s) else mErr P 1 s
def YO : MX → Prop
  | .ok s => okS s
  | .error _ => True
theorem YO_num {lo hi : Int} (h : YO y) : YO (y.bind (mNum S I P lo hi)) := by
  cases y with
  | error e => exact h
  | ok s =>
    show YO (mNum S I P lo hi s)
    unfold mNum mErr
    split
    · split
      · trivial
      · split
        · exact h
        · trivial
    · trivial
theorem YO_beh {w lo hi : Int} (h : YO y) : YO (y.bind (mBeh S I P w lo hi)) := by
  cases y with
  | error e => exact h
  | ok s =>
    show YO (mBeh S I P w lo hi s)
    unfold mBeh
    split
    · exact YO_num (y := .ok (sJ s)) h
    · trivial
theorem mDo_ok {k : Int} (h : okS s) : YO (mDo S I P k s) ∧ YN s.nc (mDo S I P k s) := by
  have n : ∀ lo hi, YO (mNum S I P lo hi s) ∧ YN s.nc (mNum S I P lo hi s) := fun lo hi => ⟨YO_num (y := .ok s) h, YN_num (y := .ok s) rfl⟩
  have n1 : YO (if k = 11 then mNum S I P 1 60 s else mNum S I P 0 5 s) ∧ YN s.nc (if k = 11 then mNum S I P 1 60 s else mNum S I P 0 5 s) := by split <;> exact n _ _
  unfold mDo
  dsimp only
  generalize (if k = 11 then mNum S I P 1 60 s else mNum S I P 0 5 s) = y at n1 ⊢
  obtain ⟨a, b⟩ := n1
  split
  · exact ⟨YO_beh (YO_beh a), YN_beh (YN_beh b)⟩
  · split
    · exact ⟨YO_beh a, YN_beh b⟩
    · split
      · exact ⟨YO_beh a, YN_beh b⟩
      · split
        · exact ⟨YO_beh a, YN_beh b⟩
        · exact ⟨a, b⟩
theorem u_281d (nx : NX N0 T S I P Q d) (hT : ∀ j : Nat, j < T → S j ≠ 0 → j + 1 < T) (h : PM N0 T S I P Q s M) (hk : S s.j = 1 ∧ I s.j ≤ 11) (hk3 : ¬ I s.j ≤ 3) (n24 : s.nc < 24) : ∃ a b c M', am_Call d 281 [(2, 447)] M = ((if am_rd M' 447 19 = 0 then ((am_Call d 72 [(2, 447), (0, 59)] M').bind fun r120 => if r120.1 = 0 then ((am_Call d 74 [(2, 447), (0, 1)] r120.2).bind fun r122 => am_Ex d 281 93 [(2, 447)] [] r122.2) else (am_Ex d 281 93 [(2, 447)] [] r120.2)) else (am_Ex d 281 93 [(2, 447)] [] M'))) ∧ PY N0 T S I P Q ((mDo S I P (I s.j) (sBeg (I s.j) s)).map (s3 a b c)) M' ∧ ∀ s', mDo S I P (I s.j) (sBeg (I s.j) s) = .ok s' → a = I (s.j + 1 : Int) ∧ (I s.j = 4 ∨ I s.j = 5 ∨ I s.j = 7 ∨ I s.j = 8 ∨ I s.j = 9 → b = I (s.j + 3 : Int)) ∧ (I s.j = 4 ∨ I s.j = 5 → c = I (s.j + 5 : Int)) := by
  obtain ⟨M1, h1, e1⟩ := u_281b nx h hk (fun t => hk3 t.1) n24 (hT s.j h.lt (by omega))
  obtain ⟨a, b, c, M2, e2, h2, h3⟩ := u_264 nx hT h1 n24 (by show 4 ≤ I s.j ∧ I s.j ≤ 11; omega)
  refine ⟨a, b, c, M2, ?_, h2, fun s' q => ?_⟩
  · rw [e1, if_neg hk3, e2, Option.bind_some]
  · have := h3 s' q
    have j1 : (((sBeg (I s.j) s).j : Nat) : Int) = (s.j : Int) + 1 := by show ((s.j + 1 : Nat) : Int) = _; omega
    rw [j1] at this
    exact ⟨this.1, fun z => (this.2.1 z).trans (by congr 1), fun z => (this.2.2 z).trans (by congr 1)⟩
theorem u_281_93 (h : PN N0 e M) : am_Ex d 281 93 [(2, 447)] [] M = some (0, M) := by
  have := h.w0
  rw [aq_281_93, ax_o_447, ax_gt, if_neg (by rw [h.wr]; omega)]
theorem g4_deedE (nx : NX N0 T S I P Q d) (hT : ∀ j : Nat, j < T → S j ≠ 0 → j + 1 < T) (hs : s.st = 4) (hk : S s.j = 1 ∧ I s.j ≤ 11) (hk3 : ¬ I s.j ≤ 3) (n24 : s.nc < 24) (he : mDo S I P (I s.j) (sBeg (I s.j) s) = .error e) : GoE N0 T S I P Q d s e := fun M h => by
  obtain ⟨a, b, c, M1, e1, h1, _⟩ := u_281d nx hT h hk hk3 n24
  rw [he] at h1
  have h1 : PN N0 e M1 := h1
  have := h1.w0
  rw [x_4 h hs (by omega), e1, if_neg (by rw [h1.wr]; omega), u_281_93 h1]
  exact ⟨_, h1, rfl⟩
theorem g4_semiE (nx : NX N0 T S I P Q d) (hT : ∀ j : Nat, j < T → S j ≠ 0 → j + 1 < T) (hs : s.st = 4) (hk : S s.j = 1 ∧ I s.j ≤ 11) (hk3 : ¬ I s.j ≤ 3) (n24 : s.nc < 24) {s1 : PS} (he : mDo S I P (I s.j) (sBeg (I s.j) s) = .ok s1) (hn : ¬ (S s1.j = 3 ∧ I s1.j = 59)) : GoE N0 T S I P Q d s (1, P s1.j, s1.nc) := fun M h => by
  obtain ⟨a, b, c, M1, e1, h1, _⟩ := u_281d nx hT h hk hk3 n24
  rw [he] at h1
  have h1 : PM N0 T S I P Q (s3 a b c s1) M1 := h1
  rw [x_4 h hs (by omega), e1, if_pos h1.wr, u_72 h1, Option.bind_some]
  dsimp only
  rw [show ax_b (S ((s3 a b c s1).j : Int) = 3 ∧ I ((s3 a b c s1).j : Int) = 59) = 0 from ax_bf hn, if_pos rfl]
  obtain ⟨M2, e2, h2⟩ := u_74 (d := d) h1 (x := 1) (by decide)
  rw [e2, Option.bind_some]
  dsimp only
  rw [u_281_93 h2]
  exact ⟨_, h2, rfl⟩
theorem g4_deed (nx : NX N0 T S I P Q d) (hT : ∀ j : Nat, j < T → S j ≠ 0 → j + 1 < T) (hs : s.st = 4) (hk : S s.j = 1 ∧ I s.j ≤ 11) (hk3 : ¬ I s.j ≤ 3) (n24 : s.nc < 24) (ok : okS s) {s1 : PS} (he : mDo S I P (I s.j) (sBeg (I s.j) s) = .ok s1) (hn : S s1.j = 3 ∧ I s1.j = 59) (h : PM N0 T S I P Q s M) : ∃ b c M', PM N0 T S I P Q (sOver (s3 (I (s.j + 1 : Int)) b c s1)) M' ∧ Ex45 d M = Ex45 d M' ∧ (I s.j = 4 ∨ I s.j = 5 ∨ I s.j = 7 ∨ I s.j = 8 ∨ I s.j = 9 → b = I (s.j + 3 : Int)) ∧ (I s.j = 4 ∨ I s.j = 5 → c = I (s.j + 5 : Int)) := by
  obtain ⟨a, b, c, M1, e1, h1, h2⟩ := u_281d nx hT h hk hk3 n24
  obtain ⟨a1, b1, c1⟩ := h2 s1 he
  rw [he] at h1
  have h1 : PM N0 T S I P Q (s3 a b c s1) M1 := h1
  obtain ⟨o1, o2⟩ := mDo_ok (S := S) (I := I) (P := P) (k := I s.j) (s := sBeg (I s.j) s) ok
  rw [he] at o1 o2
  have o2 : s1.nc = s.nc := o2
  rw [x_4 h hs (by omega), e1, if_pos h1.wr, u_72 h1, Option.bind_some]
  dsimp only
  rw [show ax_b (S ((s3 a b c s1).j : Int) = 3 ∧ I ((s3 a b c s1).j : Int) = 59) = 1 from ax_bt hn, if_neg (by decide), aq_281_93, ax_o_447, ax_gt, if_pos h1.wr]
  obtain ⟨M2, e2, h2⟩ := u_219 nx h1 o1 (by show s1.nc < 24; omega) (hT s1.j h1.lt (by omega))
  rw [e2]
  rw [← a1]
  exact ⟨b, c, M2, h2, rfl, b1, c1⟩
end
