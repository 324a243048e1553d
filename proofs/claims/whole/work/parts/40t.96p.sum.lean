/-! a sum -/
section
variable {M0 : am_M} {s : Int} {T : Nat} {K N P : Int → Int} {d : Nat} {M : am_M} {c : CS} {x : CX} {e : Int × Int} {f : CS → CX} {o : Int}
theorem tx_push (t : TK M0 s T K N P) (h : PX M0 s T x M) {z : cd} {v : Int} (hv : v = lx_enc z) : ∃ M', am_g (am_ob (am_rd M 420 6) 8) (am_Call d 54 [(2, am_rd M 420 6), (0, v)] M) = some (0, M') ∧ PX M0 s T (x.map (cPush z)) M' := by
  rw [px_s t h, sx_o t.sx, ax_gt]
  exact tx_54 t h hv
theorem tx_178f (t : TK M0 s T K N P) (h : PX M0 s T x M) {w : Int} (hw : w = 0 ∨ w = 33 ∨ w = 34) : Ctr M0 s T (am_Ex d 178 67 [(2, 420), am_N, (0, w), am_N, am_N, am_N] [] M) (x.map (cFin w)) := by
  rw [aq_178_67]
  by_cases e : w = 0
  · rw [if_pos e]
    refine ⟨_, _, rfl, ?_⟩
    have : cFin w = id := funext fun c => if_pos e
    rw [this]
    cases x <;> exact h
  · rw [if_neg e, ax_o_420, ax_gt, ax_w32 (by omega) (by omega), px_s t h, sx_o t.sx, ax_gt]
    obtain ⟨M1, e1, h1⟩ := tx_54 (d := d) t h (z := (sgn w, 0)) (v := -w) (by rw [en_sg (by omega) (by omega)])
    rw [e1]
    refine ⟨_, _, rfl, ?_⟩
    have : cFin w = cPush (sgn w, 0) := funext fun c => if_neg e
    rw [this]; exact h1
theorem bind_ok {g : CS → CS} : (x.bind fun c => .ok (g c)) = x.map g := by cases x <;> rfl
theorem tx_178l (t : TK M0 s T K N P) (H : ∀ x M, PX M0 s T x M → Ctr M0 s T (am_Call d 128 [(2, 420), (0, o)] M) (x.bind f)) : ∀ (m : Nat) (i w : Int) (x : CX) (M : am_M), PX M0 s T x M → i + m = T → 0 ≤ i → (w = 0 ∨ w = 33 ∨ w = 34) → Ctr M0 s T (am_Ex d 178 8 [(2, 420), (0, o), (0, w), (0, i), am_N, am_N] [] M) (x.bind (cSumL K f m w)) := by
  have T2 := t.T2
  intro m
  induction m with
  | zero =>
    intro i w x M h hi i0 hw
    rw [aq_178_8, ax_o_420, ax_gt, px_T t h, if_neg (by omega)]
    rw [show (x.bind (cSumL K f 0 w)) = x.map (cFin w) from bind_ok]
    exact tx_178f t h hw
  | succ m ih =>
    intro i w x M h hi i0 hw
    rw [aq_178_8, ax_o_420, ax_gt, px_T t h, if_pos (by omega), c_43 t h, Option.bind_some]
    dsimp only
    have stop : Ctr M0 s T (am_Ex d 178 67 [(2, 420), am_N, (0, w), am_N, am_N, am_N] [] M) (x.map (cFin w)) := tx_178f t h hw
    cases x with
    | error e =>
      rw [if_neg (show ¬ tk K (.error e) < 33 by show ¬ (44 : Int) < 33; decide), c_43 t h, Option.bind_some]
      dsimp only
      rw [if_neg (show ¬ tk K (.error e) ≤ 36 by show ¬ (44 : Int) ≤ 36; decide)]
      exact stop
    | ok c =>
      have hc : PC M0 s T c M := h
      show Ctr M0 s T _ (cSumL K f (m + 1) w c)
      unfold cSumL
      show Ctr M0 s T (if K c.at_ < 33 then _ else _) _
      by_cases k1 : K c.at_ < 33
      · rw [if_pos k1, if_pos k1]; exact stop
      · rw [if_neg k1, if_neg k1, c_43 t h, Option.bind_some]
        dsimp only
        show Ctr M0 s T (if K c.at_ ≤ 36 then _ else _) _
        by_cases k2 : K c.at_ ≤ 36
        · rw [if_pos k2, if_pos k2, c_43 t h, Option.bind_some]
          dsimp only
          have ha := adv t h (by show K c.at_ ≠ 44; omega)
          have ha : PX M0 s T (.ok (cAdv c)) _ := ha
          rw [ax_let]
          generalize am_wr M 420 4 (am_w32 (am_rd M 420 4 + 1)) = M1 at ha ⊢
          have next : ∀ (w' : Int) (x' : CX) (M' : am_M), PX M0 s T x' M' → (w' = 0 ∨ w' = 33 ∨ w' = 34) → Ctr M0 s T (am_Ex d 178 64 [(2, 420), (0, o), (0, w'), (0, i), am_N, am_N] [] M') (x'.bind (cSumL K f m w')) := fun w' x' M' h' hw' => by
            rw [aq_178_64, ax_let, ax_w32 (by omega) (by omega)]
            exact ih _ _ _ _ h' (by omega) (by omega) hw'
          show Ctr M0 s T (if K c.at_ = 35 then _ else _) _
          by_cases k3 : K c.at_ = 35 ∨ K c.at_ = 36
          · rw [if_pos k3]
            have b : Ctr M0 s T (am_Ex d 178 36 [(2, 420), (0, o), (0, w), (0, i), (0, K c.at_), am_N] [] M1) ((f (cAdv c)).bind fun c2 => cSumL K f m w (cPush (sgn (K c.at_), 0) c2)) := by
              rw [aq_178_36, if_neg (by decide), aq_178_50, ax_o_420, ax_gt]
              obtain ⟨r, M2, e2, h2⟩ := H _ _ ha
              rw [e2, Option.bind_some]
              dsimp only
              have h2 : PX M0 s T (f (cAdv c)) M2 := h2
              rw [if_neg (by decide), ax_w32 (by omega) (by omega), px_s t h2, sx_o t.sx, ax_gt]
              obtain ⟨M3, e3, h3⟩ := tx_54 (d := d) t h2 (z := (sgn (K c.at_), 0)) (v := -(K c.at_)) (by rw [en_sg (by omega) (by omega)])
              rw [e3, Option.bind_some]
              dsimp only
              have := next w _ _ h3 hw
              cases hf : f (cAdv c) with
              | error e => rw [hf] at this; exact this
              | ok c2 => rw [hf] at this; exact this
            by_cases k4 : K c.at_ = 35
            · rw [if_pos k4]; exact b
            · rw [if_neg k4]
              show Ctr M0 s T (if K c.at_ = 36 then _ else _) _
              rw [if_pos (by omega)]; exact b
          · rw [if_neg k3, if_neg (by omega)]
            show Ctr M0 s T (if K c.at_ = 36 then _ else _) _
            rw [if_neg (by omega), if_pos rfl]
            have b : ∀ (c1 : CS) (M' : am_M), PX M0 s T (.ok c1) M' → Ctr M0 s T (am_Ex d 178 50 [(2, 420), (0, o), (0, w), (0, i), (0, K c.at_), (0, 0)] [] M') ((f c1).bind fun c2 => cSumL K f m (K c.at_) c2) := fun c1 M' h' => by
              rw [aq_178_50, ax_o_420, ax_gt]
              obtain ⟨r, M2, e2, h2⟩ := H _ _ h'
              rw [e2, Option.bind_some]
              dsimp only
              rw [if_pos rfl]
              exact next _ _ _ h2 (by omega)
            unfold cFin
            by_cases e : w = 0
            · rw [if_pos e, if_pos e]; exact b _ _ ha
            · rw [if_neg e, if_neg e, ax_w32 (by omega) (by omega), px_s t ha, sx_o t.sx, ax_gt]
              obtain ⟨M3, e3, h3⟩ := tx_54 (d := d) t ha (z := (sgn w, 0)) (v := -w) (by rw [en_sg (by omega) (by omega)])
              rw [e3, Option.bind_some]
              dsimp only
              exact b _ _ h3
        · rw [if_neg k2, if_neg k2]; exact stop
theorem tx_178 (t : TK M0 s T K N P) (H : ∀ x M, PX M0 s T x M → Ctr M0 s T (am_Call d 128 [(2, 420), (0, o)] M) (x.bind f)) (h : PX M0 s T x M) : Ctr M0 s T (am_Call d 178 [(2, 420), (0, o)] M) (x.bind (cSum K T f)) := by
  rw [aq_178, ax_o_420, ax_gt]
  obtain ⟨r, M2, e2, h2⟩ := H _ _ h
  rw [e2, Option.bind_some]
  dsimp only
  have := tx_178l t H T 0 0 _ _ h2 (by omega) (by omega) (Or.inl rfl)
  cases x <;> exact this
end
