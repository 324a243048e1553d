/-! a clause, and all of them -/
section
variable {M0 : am_M} {s : Int} {T : Nat} {K N P : Int → Int} {d : Nat} {M : am_M} {c : CS} {x : CX} {e : Int × Int} {f : CS → CX} {o : Int}
theorem tx_258e (t : TK M0 s T K N P) (h : PX M0 s T x M) {k : Int} (k0 : 0 ≤ k) : Ctr M0 s T (am_Ex d 258 64 [(2, 420), (0, k)] [] M) ((x.map (cEnd k)).bind (cExp K P 39)) := by
  rw [aq_258_64, ax_o_420, ax_gt, px_s t h, sx_o t.sx, ax_gt]
  obtain ⟨M1, e1, h1⟩ := tx_53 (d := d) t h k0
  rw [e1, Option.bind_some]
  exact Ctr_b (tx_126 t h1 (k := 39) (by decide)) fun _ _ h2 => Ctr_r h2
theorem tx_258 (t : TK M0 s T K N P) (hd : 9 ≤ d) (h : PC M0 s T c M) : Ctr M0 s T (am_Call d 258 [(2, 420)] M) (cClause K N P T c) := by
  have hx : PX M0 s T (.ok c) M := h
  rw [aq_258, ax_o_420, ax_gt, c_43 t hx, Option.bind_some]
  dsimp only
  have e1 : Ctr M0 s T (am_Ex d 258 9 [(2, 420), am_N] [] M) (cErr P 1 c) := by
    rw [aq_258_9, ax_o_420, ax_gt]
    exact tx_fail (x := .ok c) t hx (by decide)
  unfold cClause
  show Ctr M0 s T (if K c.at_ < 0 then _ else if K c.at_ ≤ 11 then _ else _) _
  have hka : K c.at_ < 12 → K c.at_ ≠ 44 := by omega
  have htk : tk K (.ok c) = K c.at_ := rfl
  simp only [htk]
  generalize hk : K c.at_ = k
  rw [hk] at hka
  by_cases k0 : k < 0
  · rw [if_pos k0, if_pos k0]; exact e1
  · rw [if_neg k0, if_neg k0]
    by_cases k1 : k ≤ 11
    · rw [if_pos k1, if_pos k1, px_s t hx, sx_o t.sx, ax_gt]
      obtain ⟨r, e2, hr⟩ := tx_51 (d := d) t hx (k := k) (by omega)
      have hr := hr c rfl
      rw [e2, Option.bind_some]
      dsimp only
      by_cases q : k < 4 ∧ 0 ≤ c.lf k
      · rw [if_pos q] at hr ⊢
        rw [if_neg (by omega)]
        exact tx_fail (x := .ok c) t hx (by decide)
      · rw [if_neg q] at hr ⊢
        rw [if_pos hr, px_s t hx, sx_o t.sx, ax_gt, h.nl]
        by_cases q2 : c.nl < 24
        · rw [if_pos q2, if_pos (by omega)]
          obtain ⟨M1, e3, h3⟩ := tx_55 (d := d) t hx (k := k)
          rw [e3, Option.bind_some]
          dsimp only
          have h3 : PX M0 s T (.ok (cCls k c)) M1 := h3
          have ha : PX M0 s T (.ok (cAdv (cCls k c))) _ := adv t h3 (by
            show K (cCls k c).at_ ≠ 44
            rw [show (cCls k c).at_ = c.at_ by unfold cCls; split <;> rfl, hk]
            exact hka (by omega))
          have hl : PX M0 s T (.ok (cLaw k (cAdv (cCls k c)))) _ := law_w t ha k
          rw [ax_let, ax_let, px_s t hl, sx_o t.sx, ax_gt]
          obtain ⟨M2, e4, h4⟩ := tx_52 (d := d) t hl (k := k) (by omega)
          rw [e4, Option.bind_some]
          dsimp only
          have h4 : PX M0 s T (.ok (cBeg k (cLaw k (cAdv (cCls k c))))) M2 := h4
          have hn : XN (.ok (cBeg k (cLaw k (cAdv (cCls k c))))) := fun c' e => by
            cases e
            have : (cBeg k (cLaw k (cAdv (cCls k c)))).nl = c.nl + 1 := by
              have b : ∀ c : CS, (cBeg k c).nl = c.nl := fun c => by unfold cBeg; split <;> rfl
              rw [b]
              show (cCls k c).nl = _
              unfold cCls
              rw [if_pos q2]
              rfl
            omega
          unfold cClause1 cBody
          by_cases z : k = 0
          · rw [if_pos z, if_pos z]
            exact Ctr_b (tx_239 (d := d) t hd h4) fun _ _ h5 => tx_258e t h5 (by omega)
          · rw [if_neg z, if_neg z]
            by_cases z3 : k ≤ 3
            · rw [if_pos z3, if_pos z3]
              have h9 : Ctr M0 s T (am_Call d 178 [(2, 420), (0, 0)] M2) (cSumN K N P T 0 (cBeg k (cLaw k (cAdv (cCls k c))))) := tx_178n (d := d) t (n := 9) (o := 0) (by omega) (by omega) (by omega) (by omega) h4
              exact Ctr_b h9 fun _ _ h5 => tx_258e t h5 (by omega)
            · rw [if_neg z3, if_neg z3]
              exact Ctr_b (tx_177 (d := d) t h4 hn (k := k) (by omega) (by omega)) fun _ _ h5 => tx_258e t h5 (by omega)
        · rw [if_neg q2, if_neg (by omega)]
          exact tx_fail (x := .ok c) t hx (by decide)
    · rw [if_neg k1, if_neg k1]; exact e1
theorem tx_288f (h : PX M0 s T x M) : ∃ r, am_Ex d 288 49 [(2, 420), am_N, am_N, am_N, am_N] [] M = some (r, M) ∧ (r = 0 ↔ ∃ e, x = .error e) ∧ (r = 0 ∨ r = 1) := by
  rw [aq_288_49, ax_o_420, ax_gt]
  cases x with
  | error e =>
    have : am_rd M 420 8 ≠ 0 := by rw [PE.ft h]; exact PE.f0 h
    rw [if_neg this]
    exact ⟨0, rfl, ⟨fun _ => ⟨e, rfl⟩, fun _ => rfl⟩, Or.inl rfl⟩
  | ok c =>
    rw [if_pos (PC.ft h)]
    exact ⟨1, rfl, ⟨fun e => absurd e (by decide), fun ⟨e, q⟩ => by cases q⟩, Or.inr rfl⟩
variable (M0 s T) in
def Ctr2 (x : Option (Int × am_M)) (g : CX) : Prop := ∃ r M', x = some (r, M') ∧ PX M0 s T g M' ∧ (r = 0 ↔ ∃ e, g = .error e) ∧ (r = 0 ∨ r = 1)
theorem tx_288l (t : TK M0 s T K N P) (hd : 9 ≤ d) : ∀ (m : Nat) (i : Int) (x : CX) (M : am_M), PX M0 s T x M → i + m = T → 0 ≤ i → Ctr2 M0 s T (am_Ex d 288 36 [(2, 420), am_N, am_N, am_N, (0, i)] [] M) (x.bind (cTop K N P T m)) := by
  have T2 := t.T2
  have stop : ∀ x M, PX M0 s T x M → Ctr2 M0 s T (am_Ex d 288 49 [(2, 420), am_N, am_N, am_N, am_N] [] M) x := fun x M h => by
    obtain ⟨r, e, h2, h3⟩ := tx_288f (d := d) h
    exact ⟨r, M, e, h, h2, h3⟩
  intro m
  induction m with
  | zero =>
    intro i x M h hi i0
    rw [aq_288_36, ax_o_420, ax_gt, px_T t h, if_neg (by omega)]
    have := stop x M h
    cases x <;> exact this
  | succ m ih =>
    intro i x M h hi i0
    rw [aq_288_36, ax_o_420, ax_gt, px_T t h, if_pos (by omega), c_43 t h, Option.bind_some]
    dsimp only
    cases x with
    | error e => rw [if_pos (show tk K (.error e) = 44 from rfl)]; exact stop _ _ h
    | ok c =>
      show Ctr2 M0 s T (if K c.at_ = 44 then _ else _) (if K c.at_ = 44 then _ else _)
      by_cases k : K c.at_ = 44
      · rw [if_pos k, if_pos k]; exact stop _ _ h
      · rw [if_neg k, if_neg k]
        obtain ⟨r, M1, e1, h1⟩ := tx_258 (d := d) t hd h
        rw [e1, Option.bind_some, ax_let, ax_w32 (by omega) (by omega)]
        exact ih _ _ _ h1 (by omega) (by omega)
end
