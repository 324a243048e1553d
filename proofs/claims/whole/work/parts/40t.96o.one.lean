/-! the grammar, as the developers read it: pure, and their methods do it -/
section
variable (K N P : Int → Int) (T : Nat)
def sgn (k : Int) : Int := if k = 33 then 43 else if k = 34 then 45 else if k = 35 then 42 else if k = 36 then 47 else if k = 29 then 60 else if k = 30 then 62 else if k = 31 then 61 else if k = 32 then 35 else if k = 40 then 300 else if k = 41 then 301 else if k = 22 then 406 else 407
def cExp (k : Int) (c : CS) : CX := if K c.at_ = k then .ok (cAdv c) else cErr P 1 c
def cNum (w lo hi : Int) (c : CS) : CX := if K c.at_ = 42 then (if N c.at_ < lo then cErr P 2 c else if N c.at_ ≤ hi then .ok (cAdv (cSet w (N c.at_) c)) else cErr P 2 c) else cErr P 1 c
def cFin (w : Int) (c : CS) : CS := if w = 0 then c else cPush (sgn w, 0) c
def cSumL (f : CS → CX) : Nat → Int → CS → CX
  | 0, w, c => .ok (cFin w c)
  | m + 1, w, c => if K c.at_ < 33 then .ok (cFin w c) else if K c.at_ ≤ 36 then
      (if K c.at_ = 35 ∨ K c.at_ = 36 then (f (cAdv c)).bind fun c2 => cSumL f m w (cPush (sgn (K c.at_), 0) c2)
       else (f (cFin w (cAdv c))).bind fun c2 => cSumL f m (K c.at_) c2)
    else .ok (cFin w c)
def cSum (f : CS → CX) (c : CS) : CX := (f c).bind (cSumL K f T 0)
def cOne : Nat → Int → CS → CX
  | 0, _, c => .ok c
  | n + 1, o, c =>
    if K c.at_ = 42 then (if N c.at_ ≤ 9999 then .ok (cAdv (cPush (400, N c.at_) c)) else cErr P 2 c)
    else if 12 ≤ K c.at_ ∧ K c.at_ ≤ 20 then (if nmL c.law (K c.at_) = 0 then cErr P 5 c else .ok (cAdv (cPush (401, K c.at_ - 12) c)))
    else if K c.at_ = 37 ∨ K c.at_ = 24 ∨ K c.at_ = 34 then
      (if o < 8 then
        (if K c.at_ = 37 then (cSum K T (cOne n (o + 1)) (cAdv c)).bind (cExp K P 38)
         else (cOne n (o + 1) (cAdv c)).bind fun c2 => .ok (cPush (if K c.at_ = 24 then (403, 0) else (402, 0)) c2))
       else cErr P 3 c)
    else cErr P 1 c
end
section
variable {M0 : am_M} {s : Int} {T : Nat} {K N P : Int → Int} {d : Nat} {M : am_M} {c : CS} {x : CX} {e : Int × Int}
variable (M0 s T) in
def Ctr (x : Option (Int × am_M)) (g : CX) : Prop := ∃ r M', x = some (r, M') ∧ PX M0 s T g M'
theorem en_sg {k : Int} (h : 21 ≤ k) (h2 : k ≤ 22 ∨ (29 ≤ k ∧ k ≤ 36) ∨ k = 40 ∨ k = 41) : lx_enc (sgn k, 0) = -k := by
  have : k = 21 ∨ k = 22 ∨ k = 29 ∨ k = 30 ∨ k = 31 ∨ k = 32 ∨ k = 33 ∨ k = 34 ∨ k = 35 ∨ k = 36 ∨ k = 40 ∨ k = 41 := by omega
  rcases this with rfl | rfl | rfl | rfl | rfl | rfl | rfl | rfl | rfl | rfl | rfl | rfl <;> rfl
theorem tx_126 (t : TK M0 s T K N P) (h : PX M0 s T x M) {k : Int} (hk : k ≠ 44) : Ctr M0 s T (am_Call d 126 [(2, 420), (0, k)] M) (x.bind (cExp K P k)) := by
  rw [aq_126, ax_o_420, ax_gt, c_43 t h, Option.bind_some]
  dsimp only
  by_cases e : tk K x = k
  · rw [if_pos e]
    refine ⟨_, _, rfl, ?_⟩
    have := adv t h (by rw [e]; exact hk)
    cases x with
    | error e => exact this
    | ok c => show PX M0 s T (cExp K P k c) _; unfold cExp; rw [if_pos (show K c.at_ = k from e)]; exact this
  · rw [if_neg e]
    obtain ⟨M1, e1, h1⟩ := c_44 (d := d) t (v := 1) (by decide) h
    rw [e1]
    refine ⟨_, _, rfl, ?_⟩
    cases x with
    | error e => exact h1
    | ok c => show PX M0 s T (cExp K P k c) _; unfold cExp; rw [if_neg (show ¬ K c.at_ = k from e)]; exact h1
theorem tx_127 (t : TK M0 s T K N P) (h : PX M0 s T x M) {w lo hi : Int} (w0 : 0 ≤ w) (w3 : w < 3) (hn : ∀ c, x = .ok c → 1 ≤ c.nl) : Ctr M0 s T (am_Call d 127 [(2, 420), (0, w), (0, lo), (0, hi)] M) (x.bind (cNum K N P w lo hi)) := by
  rw [aq_127, ax_o_420, ax_gt, c_43 t h, Option.bind_some]
  dsimp only
  have er : ∀ v : Int, v ≠ 0 → Ctr M0 s T (am_Call d 44 [(2, 420), (0, v)] M) (x.bind (cErr P v)) := fun v hv => by
    obtain ⟨M1, e1, h1⟩ := c_44 (d := d) t hv h
    exact ⟨_, _, e1, h1⟩
  cases x with
  | error e =>
    rw [if_neg (show ¬ tk K (.error e) = 42 by show ¬ (44 : Int) = 42; decide)]
    obtain ⟨r, M1, e1, h1⟩ := er 1 (by decide)
    rw [e1]
    exact ⟨_, _, rfl, h1⟩
  | ok c =>
    have h : PC M0 s T c M := h
    show Ctr M0 s T _ (cNum K N P w lo hi c)
    unfold cNum
    show Ctr M0 s T (if K c.at_ = 42 then _ else _) _
    by_cases e : K c.at_ = 42
    · rw [if_pos e, if_pos e, c_45 t h, Option.bind_some]
      dsimp only
      have e2 : Ctr M0 s T (am_Ex d 127 17 [(2, 420), am_N, am_N, am_N] [] M) (cErr P 2 c) := by
        rw [aq_127_17, ax_o_420, ax_gt]
        obtain ⟨r, M1, e1, h1⟩ := er 2 (by decide)
        rw [e1]
        exact ⟨_, _, rfl, h1⟩
      by_cases q : N c.at_ < lo
      · rw [if_pos q, if_pos q]; exact e2
      · rw [if_neg q, if_neg q, c_45 t h, Option.bind_some]
        dsimp only
        by_cases q2 : N c.at_ ≤ hi
        · rw [if_pos q2, if_pos q2, c_45 t h, Option.bind_some, px_s (x := .ok c) t h]
          dsimp only
          rw [sx_o t.sx, ax_gt]
          obtain ⟨M1, e1, h1⟩ := tx_56 (d := d) (x := .ok c) t h (v := N c.at_) w0 w3 hn
          rw [e1]
          refine ⟨_, _, rfl, ?_⟩
          have h1 : PX M0 s T (.ok (cSet w (N c.at_) c)) M1 := h1
          exact adv t h1 (by show K c.at_ ≠ 44; rw [e]; decide)
        · rw [if_neg q2, if_neg q2]; exact e2
    · rw [if_neg e, if_neg e]
      obtain ⟨r, M1, e1, h1⟩ := er 1 (by decide)
      rw [e1]
      exact ⟨_, _, rfl, h1⟩
end
