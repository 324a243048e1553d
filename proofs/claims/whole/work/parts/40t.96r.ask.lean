/-! an ask, and asks -/
section
variable (K N P : Int → Int) (T : Nat)
def cSumN (n : Nat) : CS → CX := cSum K T (cOne K N P T (9 - n) n)
def cNots : Nat → Nat → CS → Nat × CS
  | 0, n, c => (n, c)
  | m + 1, n, c => if K c.at_ = 23 then cNots m (n + 1) (cAdv c) else (n, c)
def cPushN : Nat → CS → CS
  | 0, c => c
  | m + 1, c => cPushN m (cPush (405, 0) c)
def isC (k : Int) : Prop := (29 ≤ k ∧ k ≤ 32) ∨ k = 40 ∨ k = 41
def cAsk2 (n : Nat) (c : CS) : CX := (cSumN K N P T n c).bind fun c1 => if (29 ≤ K c1.at_ ∧ K c1.at_ ≤ 32) ∨ K c1.at_ = 40 ∨ K c1.at_ = 41 then (cSumN K N P T n (cAdv c1)).bind fun c2 => .ok (cPushN n (cPush (sgn (K c1.at_), 0) c2)) else cErr P 1 c1
def cAsk1 (r : Nat × CS) : CX := if K r.2.at_ = 23 then cErr P 3 r.2 else cAsk2 K N P T r.1 r.2
def cAsk (c : CS) : CX := cAsk1 K N P T (cNots K 8 0 c)
def cFinE (w : Int) (c : CS) : CS := if w = 0 then c else cPush (407, 0) c
def cEiL (f : CS → CX) : Nat → Int → CS → CX
  | 0, w, c => .ok (cFinE w c)
  | m + 1, w, c => if K c.at_ = 22 then (f (cAdv c)).bind fun c2 => cEiL f m w (cPush (406, 0) c2)
    else if K c.at_ = 21 then (f (cFinE w (cAdv c))).bind fun c2 => cEiL f m 1 c2
    else .ok (cFinE w c)
def cEither (c : CS) : CX := (cAsk K N P T c).bind (cEiL K (cAsk K N P T) T 0)
end
section
variable {M0 : am_M} {s : Int} {T : Nat} {K N P : Int → Int} {d : Nat} {M : am_M} {c : CS} {x : CX} {e : Int × Int} {f : CS → CX} {o : Int}
theorem tx_211_69 (t : TK M0 s T K N P) {n : Nat} (n8 : n ≤ 8) : ∀ (m i : Nat) (x : CX) (M : am_M), PX M0 s T x M → i + m = n → Ctr M0 s T (am_Ex d 211 69 [(2, 420), (0, (n : Int)), am_N, (0, (i : Int))] [] M) (x.map (cPushN m)) := by
  intro m
  induction m with
  | zero =>
    intro i x M h hi
    rw [aq_211_69, if_neg (by omega)]
    refine ⟨_, _, rfl, ?_⟩
    cases x <;> exact h
  | succ m ih =>
    intro i x M h hi
    rw [aq_211_69, if_pos (by omega), ax_o_420, ax_gt, px_s t h, sx_o t.sx, ax_gt]
    obtain ⟨M3, e3, h3⟩ := tx_54 (d := d) t h (z := (405, 0)) (v := -23) rfl
    rw [e3, Option.bind_some, ax_let, ax_w32 (by omega) (by omega)]
    dsimp only
    have := ih (i + 1) _ _ h3 (by omega)
    rw [show ((i : Int) + 1) = ((i + 1 : Nat) : Int) by omega]
    cases x <;> exact this
theorem tx_211_66 (t : TK M0 s T K N P) {n : Nat} (n8 : n ≤ 8) (h : PX M0 s T x M) : Ctr M0 s T (am_Ex d 211 66 [(2, 420), (0, (n : Int)), am_N, am_N] [] M) (x.map (cPushN n)) := by
  rw [aq_211_66]
  exact tx_211_69 t n8 n 0 x M h (by omega)
theorem tx_211_27 (t : TK M0 s T K N P) {n : Nat} (n8 : n ≤ 8) (hd : 9 ≤ d) (h : PX M0 s T x M) : Ctr M0 s T (am_Ex d 211 27 [(2, 420), (0, (n : Int)), am_N, am_N] [] M) (x.bind (cAsk2 K N P T n)) := by
  rw [aq_211_27, ax_o_420, ax_gt]
  have hq : Ctr M0 s T (am_Call d 178 [(2, 420), (0, (n : Int))] M) (x.bind (cSumN K N P T n)) := tx_178n (d := d) t (n := 9 - n) (o := n) (by omega) (by omega) (by omega) (by omega) h
  obtain ⟨r, M2, e2, h2⟩ := hq
  rw [e2, Option.bind_some]
  dsimp only
  rw [c_43 t h2, Option.bind_some]
  dsimp only
  have er : ∀ x M, PX M0 s T x M → Ctr M0 s T ((am_Call d 44 [(2, 420), (0, 1)] M).bind fun r104 => am_Ex d 211 66 [(2, 420), (0, (n : Int)), am_N, am_N] [] r104.2) (x.bind (cErr P 1)) := fun x M h => by
    obtain ⟨M1, e1, h1⟩ := c_44 (d := d) t (v := 1) (by decide) h
    rw [e1, Option.bind_some]
    have := tx_211_66 (d := d) t n8 h1
    cases x <;> exact this
  have hx : x.bind (cAsk2 K N P T n) = (x.bind (cSumN K N P T n)).bind fun c1 => if (29 ≤ K c1.at_ ∧ K c1.at_ ≤ 32) ∨ K c1.at_ = 40 ∨ K c1.at_ = 41 then (cSumN K N P T n (cAdv c1)).bind fun c2 => .ok (cPushN n (cPush (sgn (K c1.at_), 0) c2)) else cErr P 1 c1 := by cases x <;> rfl
  rw [hx]
  generalize x.bind (cSumN K N P T n) = y at h2 ⊢
  cases y with
  | error e =>
    rw [if_neg (show ¬ tk K (.error e) < 29 by show ¬ (44 : Int) < 29; decide), if_neg (show ¬ tk K (.error e) ≤ 32 by show ¬ (44 : Int) ≤ 32; decide), aq_211_40, if_neg (show ¬ tk K (.error e) = 40 by show ¬ (44 : Int) = 40; decide), if_neg (show ¬ tk K (.error e) = 41 by show ¬ (44 : Int) = 41; decide), ax_o_420, ax_gt]
    exact er _ _ h2
  | ok c1 =>
    have hc : PC M0 s T c1 M2 := h2
    change Ctr M0 s T (if K c1.at_ < 29 then am_Ex d 211 40 [(2, 420), (0, (n : Int)), (0, K c1.at_), am_N] [] M2 else if K c1.at_ ≤ 32 then am_Ex d 211 47 [(2, 420), (0, (n : Int)), (0, K c1.at_), am_N] [] M2 else am_Ex d 211 40 [(2, 420), (0, (n : Int)), (0, K c1.at_), am_N] [] M2) (if _ then _ else _)
    by_cases k1 : (29 ≤ K c1.at_ ∧ K c1.at_ ≤ 32) ∨ K c1.at_ = 40 ∨ K c1.at_ = 41
    · rw [if_pos k1]
      have go : Ctr M0 s T (am_Ex d 211 47 [(2, 420), (0, (n : Int)), (0, K c1.at_), am_N] [] M2) ((cSumN K N P T n (cAdv c1)).bind fun c2 => .ok (cPushN n (cPush (sgn (K c1.at_), 0) c2))) := by
        rw [aq_211_47, ax_o_420, ax_gt]
        have ha : PX M0 s T (.ok (cAdv c1)) _ := adv t h2 (by show K c1.at_ ≠ 44; omega)
        rw [ax_let]
        obtain ⟨r, M3, e3, h3⟩ := tx_178n (d := d) t (n := 9 - n) (o := n) (by omega) (by omega) (by omega) (by omega) ha
        rw [e3, Option.bind_some]
        dsimp only
        rw [ax_w32 (by omega) (by omega), px_s t h3, sx_o t.sx, ax_gt]
        obtain ⟨M4, e4, h4⟩ := tx_54 (d := d) t h3 (z := (sgn (K c1.at_), 0)) (v := -(K c1.at_)) (by rw [en_sg (by omega) (by omega)])
        rw [e4, Option.bind_some]
        dsimp only
        have := tx_211_66 (d := d) t n8 h4
        rw [bind_ok]
        change Ctr M0 s T _ (Except.map _ (cSumN K N P T n (cAdv c1)))
        change Ctr M0 s T _ (Except.map _ (Except.map _ (cSumN K N P T n (cAdv c1)))) at this
        cases hq : cSumN K N P T n (cAdv c1) <;> (rw [hq] at this; exact this)
      by_cases k2 : K c1.at_ < 29
      · omega
      · rw [if_neg k2]
        by_cases k3 : K c1.at_ ≤ 32
        · rw [if_pos k3]; exact go
        · rw [if_neg k3, aq_211_40]
          by_cases k4 : K c1.at_ = 40
          · rw [if_pos k4]; exact go
          · rw [if_neg k4, if_pos (by omega)]; exact go
    · rw [if_neg k1]
      have no : Ctr M0 s T (am_Ex d 211 40 [(2, 420), (0, (n : Int)), (0, K c1.at_), am_N] [] M2) (cErr P 1 c1) := by
        rw [aq_211_40, if_neg (by omega), if_neg (by omega), ax_o_420, ax_gt]
        exact er _ _ h2
      by_cases k2 : K c1.at_ < 29
      · rw [if_pos k2]; exact no
      · rw [if_neg k2, if_neg (by omega)]; exact no
theorem tx_211_19 (t : TK M0 s T K N P) {n : Nat} (n8 : n ≤ 8) (hd : 9 ≤ d) (h : PX M0 s T x M) : Ctr M0 s T (am_Ex d 211 19 [(2, 420), (0, (n : Int)), am_N, am_N] [] M) (x.bind fun c => cAsk1 K N P T (n, c)) := by
  rw [aq_211_19, ax_o_420, ax_gt, c_43 t h, Option.bind_some]
  dsimp only
  cases x with
  | error e =>
    rw [if_neg (show ¬ tk K (.error e) = 23 by show ¬ (44 : Int) = 23; decide)]
    exact tx_211_27 t n8 hd h
  | ok c =>
    show Ctr M0 s T _ (cAsk1 K N P T (n, c))
    unfold cAsk1
    show Ctr M0 s T (if K c.at_ = 23 then _ else _) (if K c.at_ = 23 then _ else _)
    by_cases k : K c.at_ = 23
    · rw [if_pos k, if_pos k]
      obtain ⟨M1, e1, h1⟩ := c_44 (d := d) t (v := 3) (by decide) h
      rw [e1, Option.bind_some]
      exact tx_211_27 t n8 hd h1
    · rw [if_neg k, if_neg k]
      exact tx_211_27 t n8 hd h
theorem tx_211_3 (t : TK M0 s T K N P) (hd : 9 ≤ d) : ∀ (m n : Nat) (x : CX) (M : am_M), n + m = 8 → PX M0 s T x M → Ctr M0 s T (am_Ex d 211 3 [(2, 420), (0, (n : Int)), am_N, am_N] [] M) (x.bind fun c => cAsk1 K N P T (cNots K m n c)) := by
  intro m
  induction m with
  | zero =>
    intro n x M hn h
    rw [aq_211_3, if_neg (by omega)]
    exact tx_211_19 t (by omega) hd h
  | succ m ih =>
    intro n x M hn h
    rw [aq_211_3, if_pos (by omega), ax_o_420, ax_gt, c_43 t h, Option.bind_some]
    dsimp only
    cases x with
    | error e =>
      rw [if_neg (show ¬ tk K (.error e) = 23 by show ¬ (44 : Int) = 23; decide)]
      exact tx_211_19 t (by omega) hd h
    | ok c =>
      show Ctr M0 s T _ (cAsk1 K N P T (cNots K (m + 1) n c))
      unfold cNots
      show Ctr M0 s T (if K c.at_ = 23 then _ else _) _
      by_cases k : K c.at_ = 23
      · rw [if_pos k, if_pos k]
        have ha : PX M0 s T (.ok (cAdv c)) _ := adv t h (by show K c.at_ ≠ 44; omega)
        rw [ax_let, ax_w32 (x := (n : Int) + 1) (by omega) (by omega), ax_let, show ((n : Int) + 1) = ((n + 1 : Nat) : Int) by omega]
        exact ih (n + 1) _ _ (by omega) ha
      · rw [if_neg k, if_neg k]
        exact tx_211_19 t (by omega) hd h
theorem tx_211 (t : TK M0 s T K N P) (hd : 9 ≤ d) (h : PX M0 s T x M) : Ctr M0 s T (am_Call d 211 [(2, 420)] M) (x.bind (cAsk K N P T)) := by
  rw [aq_211]
  exact tx_211_3 t hd 8 0 x M (by omega) h
end
