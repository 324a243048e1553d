/-! a clause -/
section
variable (K N P : Int → Int) (T : Nat)
def cDeed (k : Int) (c : CS) : CX :=
  if k = 4 ∨ k = 5 then ((((cNum K N P 0 0 5 c).bind (cExp K P 25)).bind (cNum K N P 1 0 7)).bind (cExp K P 26)).bind (cNum K N P 2 1 99)
  else if k = 7 then ((cNum K N P 0 0 5 c).bind (cExp K P 27)).bind (cNum K N P 1 0 7)
  else if k = 8 then ((cNum K N P 0 0 5 c).bind (cExp K P 28)).bind (cNum K N P 1 0 7)
  else if k = 9 then ((cNum K N P 0 0 5 c).bind (cExp K P 26)).bind (cNum K N P 1 0 5)
  else if k = 11 then cNum K N P 0 1 60 c
  else cNum K N P 0 0 5 c
def cBody (k : Int) (c : CS) : CX := if k = 0 then cEither K N P T c else if k ≤ 3 then cSumN K N P T 0 c else cDeed K N P k c
def cClause1 (k : Int) (c : CS) : CX := ((cBody K N P T k (cBeg k (cLaw k (cAdv (cCls k c))))).map (cEnd k)).bind (cExp K P 39)
def cClause (c : CS) : CX :=
  if K c.at_ < 0 then cErr P 1 c else if K c.at_ ≤ 11 then
    (if K c.at_ < 4 ∧ 0 ≤ c.lf (K c.at_) then cErr P 4 c else if c.nl < 24 then cClause1 K N P T (K c.at_) c else cErr P 6 c)
  else cErr P 1 c
def cTop : Nat → CS → CX
  | 0, c => .ok c
  | m + 1, c => if K c.at_ = 44 then .ok c else (cClause K N P T c).bind (cTop m)
end
section
variable {M0 : am_M} {s : Int} {T : Nat} {K N P : Int → Int} {d : Nat} {M : am_M} {c : CS} {x : CX} {e : Int × Int} {f : CS → CX} {o : Int}
theorem tx_239f (t : TK M0 s T K N P) (h : PX M0 s T x M) {w : Int} : Ctr M0 s T (am_Ex d 239 55 [(2, 420), (0, w), am_N, am_N] [] M) (x.map (cFinE w)) := by
  rw [aq_239_55]
  by_cases e : w = 0
  · rw [if_pos e]
    refine ⟨_, _, rfl, ?_⟩
    have : cFinE w = id := funext fun c => if_pos e
    rw [this]
    cases x <;> exact h
  · rw [if_neg e, ax_o_420, ax_gt, px_s t h, sx_o t.sx, ax_gt]
    obtain ⟨M1, e1, h1⟩ := tx_54 (d := d) t h (z := (407, 0)) (v := -21) rfl
    rw [e1]
    refine ⟨_, _, rfl, ?_⟩
    have : cFinE w = cPush (407, 0) := funext fun c => if_neg e
    rw [this]; exact h1
theorem tx_239l (t : TK M0 s T K N P) (hd : 9 ≤ d) : ∀ (m : Nat) (i w : Int) (x : CX) (M : am_M), PX M0 s T x M → i + m = T → 0 ≤ i → Ctr M0 s T (am_Ex d 239 7 [(2, 420), (0, w), (0, i), am_N] [] M) (x.bind (cEiL K (cAsk K N P T) m w)) := by
  have T2 := t.T2
  intro m
  induction m with
  | zero =>
    intro i w x M h hi i0
    rw [aq_239_7, ax_o_420, ax_gt, px_T t h, if_neg (by omega)]
    rw [show (x.bind (cEiL K (cAsk K N P T) 0 w)) = x.map (cFinE w) from bind_ok]
    exact tx_239f t h
  | succ m ih =>
    intro i w x M h hi i0
    have next : ∀ (w' : Int) (x' : CX) (M' : am_M), PX M0 s T x' M' → Ctr M0 s T (am_Ex d 239 52 [(2, 420), (0, w'), (0, i), am_N] [] M') (x'.bind (cEiL K (cAsk K N P T) m w')) := fun w' x' M' h' => by
      rw [aq_239_52, ax_let, ax_w32 (by omega) (by omega)]
      exact ih _ _ _ _ h' (by omega) (by omega)
    rw [aq_239_7, ax_o_420, ax_gt, px_T t h, if_pos (by omega), c_43 t h, Option.bind_some]
    dsimp only
    cases x with
    | error e =>
      rw [if_neg (show ¬ tk K (.error e) = 22 by show ¬ (44 : Int) = 22; decide), c_43 t h, Option.bind_some]
      dsimp only
      rw [if_neg (show ¬ tk K (.error e) = 21 by show ¬ (44 : Int) = 21; decide)]
      exact tx_239f t h
    | ok c =>
      show Ctr M0 s T (if K c.at_ = 22 then _ else _) (cEiL K (cAsk K N P T) (m + 1) w c)
      unfold cEiL
      by_cases k1 : K c.at_ = 22
      · rw [if_pos k1, if_pos k1, aq_239_20, ax_o_420, ax_gt, c_43 t h, Option.bind_some]
        dsimp only
        have ha : PX M0 s T (.ok (cAdv c)) _ := adv t h (by show K c.at_ ≠ 44; omega)
        rw [ax_let, if_neg (show ¬ tk K (.ok c) = 21 by show ¬ K c.at_ = 21; omega), aq_239_39, ax_o_420, ax_gt]
        obtain ⟨r, M2, e2, h2⟩ := tx_211 (d := d) t hd ha
        rw [e2, Option.bind_some]
        dsimp only
        rw [if_pos (show tk K (.ok c) = 22 from k1), px_s t h2, sx_o t.sx, ax_gt]
        obtain ⟨M3, e3, h3⟩ := tx_54 (d := d) t h2 (z := (406, 0)) (v := -22) rfl
        rw [e3, Option.bind_some]
        dsimp only
        have := next w _ _ h3
        change Ctr M0 s T _ (Except.bind (Except.map _ (cAsk K N P T (cAdv c))) _) at this
        cases hf : cAsk K N P T (cAdv c) <;> (rw [hf] at this; exact this)
      · rw [if_neg k1, if_neg k1, c_43 t h, Option.bind_some]
        dsimp only
        show Ctr M0 s T (if K c.at_ = 21 then _ else _) _
        by_cases k2 : K c.at_ = 21
        · rw [if_pos k2, if_pos k2, aq_239_20, ax_o_420, ax_gt, c_43 t h, Option.bind_some]
          dsimp only
          have ha : PX M0 s T (.ok (cAdv c)) _ := adv t h (by show K c.at_ ≠ 44; omega)
          rw [ax_let, if_pos (show tk K (.ok c) = 21 from k2)]
          have go : ∀ (c1 : CS) (M' : am_M), PX M0 s T (.ok c1) M' → Ctr M0 s T (am_Ex d 239 39 [(2, 420), (0, w), (0, i), (0, tk K (.ok c))] [] M') ((cAsk K N P T c1).bind fun c2 => cEiL K (cAsk K N P T) m 1 c2) := fun c1 M' h' => by
            rw [aq_239_39, ax_o_420, ax_gt]
            obtain ⟨r, M2, e2, h2⟩ := tx_211 (d := d) t hd h'
            rw [e2, Option.bind_some]
            dsimp only
            rw [if_neg (show ¬ tk K (.ok c) = 22 from k1)]
            exact next 1 _ _ h2
          unfold cFinE
          by_cases e : w = 0
          · rw [if_pos e, if_pos e]; exact go _ _ ha
          · rw [if_neg e, if_neg e, px_s t ha, sx_o t.sx, ax_gt]
            obtain ⟨M3, e3, h3⟩ := tx_54 (d := d) t ha (z := (407, 0)) (v := -21) rfl
            rw [e3, Option.bind_some]
            dsimp only
            exact go _ _ h3
        · rw [if_neg k2, if_neg k2]; exact tx_239f t h
theorem tx_239 (t : TK M0 s T K N P) (hd : 9 ≤ d) (h : PX M0 s T x M) : Ctr M0 s T (am_Call d 239 [(2, 420)] M) (x.bind (cEither K N P T)) := by
  rw [aq_239, ax_o_420, ax_gt]
  obtain ⟨r, M2, e2, h2⟩ := tx_211 (d := d) t hd h
  rw [e2, Option.bind_some]
  dsimp only
  have := tx_239l (d := d) t hd T 0 0 _ _ h2 (by omega) (by omega)
  cases x <;> exact this
def XN (x : CX) : Prop := ∀ c, x = .ok c → 1 ≤ c.nl
theorem XN_num (h : XN x) {w lo hi : Int} : XN (x.bind (cNum K N P w lo hi)) := by
  intro c e
  cases x with
  | error e' => cases e
  | ok c0 =>
    have h0 := h c0 rfl
    change cNum K N P w lo hi c0 = .ok c at e
    unfold cNum at e
    split at e
    · split at e
      · cases e
      · split at e
        · cases e; exact h0
        · cases e
    · cases e
theorem XN_exp (h : XN x) {k : Int} : XN (x.bind (cExp K P k)) := by
  intro c e
  cases x with
  | error e' => cases e
  | ok c0 =>
    have h0 := h c0 rfl
    change cExp K P k c0 = .ok c at e
    unfold cExp at e
    split at e
    · cases e; exact h0
    · cases e
/-- one call, and what is behind it -/
theorem Ctr_b {g : CX} {y : Option (Int × am_M)} {k : Int × am_M → Option (Int × am_M)} {g2 : CX} (h : Ctr M0 s T y g) (H : ∀ r M', PX M0 s T g M' → Ctr M0 s T (k (r, M')) g2) : Ctr M0 s T (y.bind k) g2 := by
  obtain ⟨r, M', e, h'⟩ := h
  rw [e]
  exact H r M' h'
theorem Ctr_r {g : CX} (h : PX M0 s T g M) {r : Int} : Ctr M0 s T (some (r, M)) g := ⟨r, M, rfl, h⟩
theorem tx_177 (t : TK M0 s T K N P) (h : PX M0 s T x M) (hn : XN x) {k : Int} (k0 : 4 ≤ k) (k1 : k ≤ 11) : Ctr M0 s T (am_Call d 177 [(2, 420), (0, k)] M) (x.bind (cDeed K N P k)) := by
  have n1 : XN (x.bind (cNum K N P 0 0 5)) := XN_num hn
  have e25 : XN ((x.bind (cNum K N P 0 0 5)).bind (cExp K P 25)) := XN_exp n1
  have n2 : XN (((x.bind (cNum K N P 0 0 5)).bind (cExp K P 25)).bind (cNum K N P 1 0 7)) := XN_num e25
  have e26 : XN ((((x.bind (cNum K N P 0 0 5)).bind (cExp K P 25)).bind (cNum K N P 1 0 7)).bind (cExp K P 26)) := XN_exp n2
  have e27 : XN ((x.bind (cNum K N P 0 0 5)).bind (cExp K P 27)) := XN_exp n1
  have e28 : XN ((x.bind (cNum K N P 0 0 5)).bind (cExp K P 28)) := XN_exp n1
  have e6 : XN ((x.bind (cNum K N P 0 0 5)).bind (cExp K P 26)) := XN_exp n1
  have tea : Ctr M0 s T ((am_Call d 127 [(2, 420), (0, 0), (0, 0), (0, 5)] M).bind fun r103 => (am_Call d 126 [(2, 420), (0, 25)] r103.2).bind fun r104 => (am_Call d 127 [(2, 420), (0, 1), (0, 0), (0, 7)] r104.2).bind fun r105 => (am_Call d 126 [(2, 420), (0, 26)] r105.2).bind fun r106 => (am_Call d 127 [(2, 420), (0, 2), (0, 1), (0, 99)] r106.2).bind fun r107 => some (0, r107.2)) (((((x.bind (cNum K N P 0 0 5)).bind (cExp K P 25)).bind (cNum K N P 1 0 7)).bind (cExp K P 26)).bind (cNum K N P 2 1 99)) :=
    Ctr_b (tx_127 t h (by decide) (by decide) hn) fun _ _ h1 => Ctr_b (tx_126 t h1 (by decide)) fun _ _ h2 => Ctr_b (tx_127 t h2 (by decide) (by decide) e25) fun _ _ h3 => Ctr_b (tx_126 t h3 (by decide)) fun _ _ h4 => Ctr_b (tx_127 t h4 (by decide) (by decide) e26) fun _ _ h5 => Ctr_r h5
  rw [aq_177]
  have : k = 4 ∨ k = 5 ∨ k = 6 ∨ k = 7 ∨ k = 8 ∨ k = 9 ∨ k = 10 ∨ k = 11 := by omega
  have fn : ∀ {g g' : CS → CX}, g = g' → x.bind g = x.bind g' := fun e => by rw [e]
  have as5 : ∀ {g1 g2 g3 g4 g5 : CS → CX}, (x.bind fun c => ((((g1 c).bind g2).bind g3).bind g4).bind g5) = ((((x.bind g1).bind g2).bind g3).bind g4).bind g5 := by intros; cases x <;> rfl
  have as3 : ∀ {g1 g2 g3 : CS → CX}, (x.bind fun c => ((g1 c).bind g2).bind g3) = ((x.bind g1).bind g2).bind g3 := by intros; cases x <;> rfl
  rcases this with rfl | rfl | rfl | rfl | rfl | rfl | rfl | rfl
  · exact (as5 (g1 := cNum K N P 0 0 5)) ▸ tea
  · exact (as5 (g1 := cNum K N P 0 0 5)) ▸ tea
  · exact Ctr_b (tx_127 (d := d) t h (by decide) (by decide) hn) fun _ _ h1 => Ctr_r h1
  · exact (as3 (g1 := cNum K N P 0 0 5)) ▸ Ctr_b (tx_127 (d := d) t h (by decide) (by decide) hn) fun _ _ h1 => Ctr_b (tx_126 t h1 (k := 27) (by decide)) fun _ _ h2 => Ctr_b (tx_127 t h2 (by decide) (by decide) e27) fun _ _ h3 => Ctr_r h3
  · exact (as3 (g1 := cNum K N P 0 0 5)) ▸ Ctr_b (tx_127 (d := d) t h (by decide) (by decide) hn) fun _ _ h1 => Ctr_b (tx_126 t h1 (k := 28) (by decide)) fun _ _ h2 => Ctr_b (tx_127 t h2 (by decide) (by decide) e28) fun _ _ h3 => Ctr_r h3
  · exact (as3 (g1 := cNum K N P 0 0 5)) ▸ Ctr_b (tx_127 (d := d) t h (by decide) (by decide) hn) fun _ _ h1 => Ctr_b (tx_126 t h1 (k := 26) (by decide)) fun _ _ h2 => Ctr_b (tx_127 t h2 (by decide) (by decide) e6) fun _ _ h3 => Ctr_r h3
  · exact Ctr_b (tx_127 (d := d) t h (by decide) (by decide) hn) fun _ _ h1 => Ctr_r h1
  · exact Ctr_b (tx_127 (d := d) t h (by decide) (by decide) hn) fun _ _ h1 => Ctr_r h1
end
