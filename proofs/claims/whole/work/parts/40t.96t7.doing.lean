/-! the model's parser: a clause that is a deed -/
section
variable (S I P : Int → Int)
def mErr (v : Int) (s : PS) : MX := .error (v, P s.j, s.nc)
def mNum (lo hi : Int) (s : PS) : MX := if S s.j = 2 then (if I s.j < lo then mErr P 2 s else if I s.j ≤ hi then .ok (sJ s) else mErr P 2 s) else mErr P 1 s
def mBeh (w lo hi : Int) (s : PS) : MX := if S s.j = 1 ∧ I s.j = w then mNum S I P lo hi (sJ s) else mErr P 1 s
def YN (n : Nat) : MX → Prop
  | .ok s => s.nc = n
  | .error e => e.2.2 = n
end
section
variable {N0 : am_M} {T : Nat} {S I P Q : Int → Int} {d : Nat} {M : am_M} {s s' s2 : PS} {e : Int × Int × Nat} {y : MX}
theorem YN_num {n : Nat} {lo hi : Int} (h : YN n y) : YN n (y.bind (mNum S I P lo hi)) := by
  cases y with
  | error e => exact h
  | ok s =>
    show YN n (mNum S I P lo hi s)
    unfold mNum mErr
    split
    · split
      · exact h
      · split <;> exact h
    · exact h
theorem YN_beh {n : Nat} {w lo hi : Int} (h : YN n y) : YN n (y.bind (mBeh S I P w lo hi)) := by
  cases y with
  | error e => exact h
  | ok s =>
    show YN n (mBeh S I P w lo hi s)
    unfold mBeh
    split
    · exact YN_num (y := .ok (sJ s)) h
    · exact h
theorem PY_K (h : PY N0 T S I P Q y M) : ax_K M := by cases y with
  | ok s => exact PM.hK h
  | error e => exact PN.hK h
theorem u_74k (h : PM N0 T S I P Q s M) {x : Int} (hx : 1 ≤ x) : ∃ M', am_Call d 74 [(2, 447), (0, x)] M = some (0, M') ∧ PN N0 (x, P s.j, s.nc) M' ∧ am_rd M' 447 30 = am_rd M 447 30 := by
  obtain ⟨M', e, h1⟩ := u_74 (d := d) h hx
  refine ⟨M', e, h1, ?_⟩
  rw [aq_74, ax_o_447, ax_gt, if_pos h.wr] at e
  cases e
  rfl
theorem u_220 (nx : NX N0 T S I P Q d) (hT : ∀ j : Nat, j < T → S j ≠ 0 → j + 1 < T) (h : PY N0 T S I P Q y M) {lo hi : Int} : ∃ r M', am_Call d 220 [(2, 447), (0, lo), (0, hi)] M = some (r, M') ∧ PY N0 T S I P Q (y.bind (mNum S I P lo hi)) M' ∧ am_rd M' 447 30 = am_rd M 447 30 ∧ ∀ s s', y = .ok s → mNum S I P lo hi s = .ok s' → r = I s.j := by
  rw [aq_220, ax_o_447, ax_gt]
  cases y with
  | error e =>
    have h : PN N0 e M := h
    have := h.w0
    rw [if_neg (by rw [h.wr]; omega), aq_220_8, ax_o_447, ax_gt, u_74e h]
    exact ⟨_, _, rfl, h, rfl, fun s s' q => by cases q⟩
  | ok s =>
    have h : PM N0 T S I P Q s M := h
    rw [if_pos (by rw [h.wr]; decide), h.so]
    show ∃ r M', _ ∧ PY N0 T S I P Q (mNum S I P lo hi s) M' ∧ _
    by_cases q : S s.j = 2
    · rw [if_pos q, h.is, aq_64]
      have er : mNum S I P lo hi s = mErr P 2 s → ∃ r M', ((am_Call d 74 [(2, 447), (0, 2)] M).bind fun r106 => some (lo, r106.2)) = some (r, M') ∧ PY N0 T S I P Q (mNum S I P lo hi s) M' ∧ am_rd M' 447 30 = am_rd M 447 30 ∧ ∀ s_1 s', (Except.ok s : MX) = .ok s_1 → mNum S I P lo hi s_1 = .ok s' → r = I s_1.j := fun z => by
        obtain ⟨M2, e2, h2, h3⟩ := u_74k (d := d) h (x := 2) (by decide)
        rw [e2]
        refine ⟨_, _, rfl, ?_, h3, fun s1 s' a b => ?_⟩
        · rw [z]; exact h2
        · cases a; rw [z] at b; cases b
      by_cases a : I s.j < lo
      · rw [if_pos a, Option.bind_some]
        dsimp only
        rw [if_pos rfl]
        exact er (by unfold mNum; rw [if_pos q, if_pos a])
      · rw [if_neg a]
        by_cases b : I s.j ≤ hi
        · have z : mNum S I P lo hi s = .ok (sJ s) := by unfold mNum; rw [if_pos q, if_neg a, if_pos b]
          rw [if_pos b, Option.bind_some]
          dsimp only
          rw [if_neg (by decide), h.is, ax_let]
          obtain ⟨M2, e2, h2⟩ := u_194 nx h (hT s.j h.lt (by omega))
          rw [e2]
          refine ⟨_, _, rfl, ?_, ?_, fun s1 s' a b => by cases a; rfl⟩
          · rw [z]; exact h2
          · exact h2.nk.trans h.nk.symm
        · rw [if_neg b, Option.bind_some]
          dsimp only
          rw [if_pos rfl]
          exact er (by unfold mNum; rw [if_pos q, if_neg a, if_neg b])
    · have z : mNum S I P lo hi s = mErr P 1 s := by unfold mNum; rw [if_neg q]
      rw [if_neg q, aq_220_8, ax_o_447, ax_gt]
      obtain ⟨M2, e2, h2, h3⟩ := u_74k (d := d) h (x := 1) (by decide)
      rw [e2]
      refine ⟨_, _, rfl, ?_, h3, fun s1 s' a b => ?_⟩
      · rw [z]; exact h2
      · cases a; rw [z] at b; cases b
theorem u_250 (nx : NX N0 T S I P Q d) (hT : ∀ j : Nat, j < T → S j ≠ 0 → j + 1 < T) (h : PY N0 T S I P Q y M) {w lo hi : Int} : ∃ r M', am_Call d 250 [(2, 447), (0, w), (0, lo), (0, hi)] M = some (r, M') ∧ PY N0 T S I P Q (y.bind (mBeh S I P w lo hi)) M' ∧ am_rd M' 447 30 = am_rd M 447 30 ∧ ∀ s s', y = .ok s → mBeh S I P w lo hi s = .ok s' → r = I (s.j + 1 : Int) := by
  rw [aq_250, ax_o_447, ax_gt]
  have tail : ∀ e M, PN N0 e M → ∃ r, am_Ex d 250 11 [(2, 447), am_N, (0, lo), (0, hi)] [] M = some (r, M) := fun e M h => by
    have := h.w0
    rw [aq_250_11, ax_o_447, ax_gt, if_neg (by rw [h.wr]; omega), aq_250_17, ax_o_447, ax_gt, aq_220, ax_o_447, ax_gt, if_neg (by rw [h.wr]; omega), aq_220_8, ax_o_447, ax_gt, u_74e h]
    exact ⟨_, rfl⟩
  cases y with
  | error e =>
    have h : PN N0 e M := h
    have := h.w0
    obtain ⟨r, e1⟩ := tail e M h
    rw [if_neg (by rw [h.wr]; omega), e1]
    exact ⟨_, _, rfl, h, rfl, fun s s' q => by cases q⟩
  | ok s =>
    have h : PM N0 T S I P Q s M := h
    show ∃ r M', _ ∧ PY N0 T S I P Q (mBeh S I P w lo hi s) M' ∧ _
    rw [if_pos h.wr, u_73 h, Option.bind_some]
    dsimp only
    by_cases q : S s.j = 1 ∧ I s.j = w
    · have z : mBeh S I P w lo hi s = mNum S I P lo hi (sJ s) := by unfold mBeh; rw [if_pos q]
      rw [ax_bt q, if_neg (by decide), aq_250_11, ax_o_447, ax_gt, if_pos h.wr]
      obtain ⟨M2, e2, h2⟩ := u_194 nx h (hT s.j h.lt (by omega))
      rw [e2, Option.bind_some]
      dsimp only
      rw [aq_250_17, ax_o_447, ax_gt]
      obtain ⟨r, M3, e3, h3, h4, h5⟩ := u_220 (y := .ok (sJ s)) nx hT h2 (lo := lo) (hi := hi)
      rw [e3]
      refine ⟨_, _, rfl, ?_, ?_, fun s1 s' a b => ?_⟩
      · rw [z]; exact h3
      · exact h4.trans (h2.nk.trans h.nk.symm)
      · cases a
        rw [z] at b
        exact (h5 (sJ s) s' rfl b).trans (by show I ((s.j + 1 : Nat) : Int) = _; rw [show ((s.j + 1 : Nat) : Int) = (s.j : Int) + 1 by omega])
    · have z : mBeh S I P w lo hi s = mErr P 1 s := by unfold mBeh; rw [if_neg q]
      rw [ax_bf q, if_pos rfl]
      obtain ⟨M2, e2, h2, h3⟩ := u_74k (d := d) h (x := 1) (by decide)
      rw [e2, Option.bind_some]
      dsimp only
      obtain ⟨r, e1⟩ := tail _ M2 h2
      rw [e1]
      refine ⟨_, _, rfl, ?_, h3, fun s1 s' a b => ?_⟩
      · rw [z]; exact h2
      · cases a; rw [z] at b; cases b
end
