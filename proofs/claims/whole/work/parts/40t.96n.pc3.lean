/-! a reader's small methods, 3 -/
section
variable {M0 : am_M} {s : Int} {T : Nat} {K N P : Int → Int} {d : Nat} {M : am_M} {c : CS} {x : CX} {e : Int × Int}
def cLaw (v : Int) (c : CS) : CS := .mk c.at_ v c.cs c.lf c.lt c.kd c.nm c.nl
def cBeg (k : Int) (c : CS) : CS := if k < 4 then .mk c.at_ c.law c.cs (up c.lf k (c.cs.length : Int)) c.lt c.kd c.nm c.nl else c
def cEnd (k : Int) (c : CS) : CS := if k < 4 then .mk c.at_ c.law c.cs c.lf (up c.lt k (c.cs.length : Int)) c.kd c.nm c.nl else c
def cCls (k : Int) (c : CS) : CS := if c.nl < 24 then .mk c.at_ c.law c.cs c.lf c.lt (up c.kd (c.nl : Int) k) c.nm (c.nl + 1) else c
def cSet (w v : Int) (c : CS) : CS := .mk c.at_ c.law c.cs c.lf c.lt c.kd (up c.nm (3 * ((c.nl : Int) - 1) + w) v) c.nl
theorem up_wr {c i v : Int} {f : Int → Int} {n : Int} (h : ∀ k, 0 ≤ k → k < n → am_rd M c k = f k) : ∀ k, 0 ≤ k → k < n → am_rd (am_wr M c i v) c k = up f i v k := fun k k0 k1 => by
  rw [ax_rw]
  unfold up
  by_cases hk : k = i
  · rw [if_pos ⟨rfl, hk⟩, if_pos hk]
  · rw [if_neg fun q => hk q.2, if_neg hk]; exact h k k0 k1
theorem law_w (t : TK M0 s T K N P) (h : PX M0 s T x M) (v : Int) : PX M0 s T (x.map (cLaw v)) (am_wr M 420 5 v) := by
  have sx := t.sx
  cases x with
  | error e => exact pe_wr t h (Or.inl ⟨rfl, by decide⟩) (by omega)
  | ok c =>
    have h : PC M0 s T c M := h
    unfold sxt at sx
    have w : ∀ y i, ¬ (y = 420 ∧ i = 5) → am_rd (am_wr M 420 5 v) y i = am_rd M y i := fun y i q => if_neg q
    refine ⟨r_wr h.hK (by decide), rd_wr h.fr9 (Or.inl ⟨rfl, by decide⟩), ?_, h.lt, ax_ws, ?_, ?_, h.nc3, CST_congr h.cs fun i _ _ => ?_, ?_, h.nl2, fun k k0 k1 => ?_, fun k k0 k1 => ?_, fun k k0 k1 => ?_, fun k k0 k1 => ?_⟩
    · exact (w _ _ (by omega)).trans h.at_
    · exact (w _ _ (by omega)).trans h.ft
    · exact (w _ _ (by omega)).trans h.nc
    · exact w _ _ (by omega)
    · exact (w _ _ (by omega)).trans h.nl
    · exact (w _ _ (by omega)).trans (h.lf k k0 k1)
    · exact (w _ _ (by omega)).trans (h.ll k k0 k1)
    · exact (w _ _ (by omega)).trans (h.kd k k0 k1)
    · exact (w _ _ (by omega)).trans (h.nm k k0 k1)
theorem tx_51 (t : TK M0 s T K N P) (h : PX M0 s T x M) {k : Int} (k0 : 0 ≤ k) : ∃ r, am_Call d 51 [(2, s), (0, k)] M = some (r, M) ∧ ∀ c, x = .ok c → r = if k < 4 ∧ 0 ≤ c.lf k then 1 else 0 := by
  have sx := t.sx
  have hK := PX_K h
  rw [aq_51, if_neg (show ¬ k < 0 by omega)]
  by_cases k4 : k < 4
  · rw [if_pos k4, sx_o sx, ax_gt, sx_k2 sx hK, sx_2 sx, ax_gi k0 k4]
    by_cases hl : am_rd M (s + 2) k < 0
    · rw [if_pos hl]
      refine ⟨0, rfl, fun c e => ?_⟩
      subst e
      rw [if_neg]
      rw [← PC.lf h k k0 k4]; omega
    · rw [if_neg hl]
      refine ⟨1, rfl, fun c e => ?_⟩
      subst e
      rw [if_pos]
      rw [← PC.lf h k k0 k4]; exact ⟨k4, by omega⟩
  · rw [if_neg k4]
    exact ⟨0, rfl, fun c e => (if_neg fun q => k4 q.1).symm⟩
theorem tx_52 (t : TK M0 s T K N P) (h : PX M0 s T x M) {k : Int} (k0 : 0 ≤ k) : ∃ M', am_Call d 52 [(2, s), (0, k)] M = some (0, M') ∧ PX M0 s T (x.map (cBeg k)) M' := by
  have sx := t.sx
  have hK := PX_K h
  rw [aq_52, if_neg (show ¬ k < 0 by omega)]
  by_cases k4 : k < 4
  · rw [if_pos k4, sx_o sx, ax_gt, sx_k2 sx hK, sx_2 sx, ax_gi k0 k4]
    refine ⟨_, rfl, ?_⟩
    cases x with
    | error e => exact pe_wr t h (Or.inr (Or.inr ⟨by omega, by omega⟩)) (by unfold sxt at sx; omega)
    | ok c =>
      have h : PC M0 s T c M := h
      show PC M0 s T (cBeg k c) _
      unfold cBeg
      rw [if_pos k4, h.nc]
      have w : ∀ y i, y ≠ s + 2 → am_rd (am_wr M (s + 2) k (c.cs.length : Int)) y i = am_rd M y i := fun y i q => if_neg fun r => q r.1
      have s0 := sx
      unfold sxt at s0
      refine ⟨sx_wa sx hK (by omega) (by omega), rd_wr h.fr9 (Or.inr (Or.inr ⟨by omega, by omega⟩)), ?_, h.lt, ?_, ?_, ?_, h.nc3, CST_congr h.cs fun i _ _ => ?_, ?_, h.nl2, up_wr h.lf, fun k k0 k1 => ?_, fun k k0 k1 => ?_, fun k k0 k1 => ?_⟩
      · exact (w _ _ (by omega)).trans h.at_
      · exact (w _ _ (by omega)).trans h.law
      · exact (w _ _ (by omega)).trans h.ft
      · exact (w _ _ (by omega)).trans h.nc
      · exact w _ _ (by omega)
      · exact (w _ _ (by omega)).trans h.nl
      · exact (w _ _ (by omega)).trans (h.ll k k0 k1)
      · exact (w _ _ (by omega)).trans (h.kd k k0 k1)
      · exact (w _ _ (by omega)).trans (h.nm k k0 k1)
  · rw [if_neg k4]
    refine ⟨M, rfl, ?_⟩
    have : cBeg k = id := funext fun c => if_neg k4
    rw [this]
    cases x <;> exact h
theorem tx_53 (t : TK M0 s T K N P) (h : PX M0 s T x M) {k : Int} (k0 : 0 ≤ k) : ∃ M', am_Call d 53 [(2, s), (0, k)] M = some (0, M') ∧ PX M0 s T (x.map (cEnd k)) M' := by
  have sx := t.sx
  have hK := PX_K h
  rw [aq_53, if_neg (show ¬ k < 0 by omega)]
  by_cases k4 : k < 4
  · rw [if_pos k4, sx_o sx, ax_gt, sx_k3 sx hK, sx_3 sx, ax_gi k0 k4]
    refine ⟨_, rfl, ?_⟩
    cases x with
    | error e => exact pe_wr t h (Or.inr (Or.inr ⟨by omega, by omega⟩)) (by unfold sxt at sx; omega)
    | ok c =>
      have h : PC M0 s T c M := h
      show PC M0 s T (cEnd k c) _
      unfold cEnd
      rw [if_pos k4, h.nc]
      have w : ∀ y i, y ≠ s + 3 → am_rd (am_wr M (s + 3) k (c.cs.length : Int)) y i = am_rd M y i := fun y i q => if_neg fun r => q r.1
      have s0 := sx
      unfold sxt at s0
      refine ⟨sx_wa sx hK (by omega) (by omega), rd_wr h.fr9 (Or.inr (Or.inr ⟨by omega, by omega⟩)), ?_, h.lt, ?_, ?_, ?_, h.nc3, CST_congr h.cs fun i _ _ => ?_, ?_, h.nl2, fun k k0 k1 => ?_, up_wr h.ll, fun k k0 k1 => ?_, fun k k0 k1 => ?_⟩
      · exact (w _ _ (by omega)).trans h.at_
      · exact (w _ _ (by omega)).trans h.law
      · exact (w _ _ (by omega)).trans h.ft
      · exact (w _ _ (by omega)).trans h.nc
      · exact w _ _ (by omega)
      · exact (w _ _ (by omega)).trans h.nl
      · exact (w _ _ (by omega)).trans (h.lf k k0 k1)
      · exact (w _ _ (by omega)).trans (h.kd k k0 k1)
      · exact (w _ _ (by omega)).trans (h.nm k k0 k1)
  · rw [if_neg k4]
    refine ⟨M, rfl, ?_⟩
    have : cEnd k = id := funext fun c => if_neg k4
    rw [this]
    cases x <;> exact h
theorem tx_56 (t : TK M0 s T K N P) (h : PX M0 s T x M) {w v : Int} (w0 : 0 ≤ w) (w3 : w < 3) (hn : ∀ c, x = .ok c → 1 ≤ c.nl) : ∃ M', am_Call d 56 [(2, s), (0, w), (0, v)] M = some (0, M') ∧ PX M0 s T (x.map (cSet w v)) M' := by
  have sx := t.sx
  have hK := PX_K h
  have s0 := sx
  unfold sxt at s0
  rw [aq_56, sx_o sx, ax_gt]
  unfold am_let
  dsimp only
  cases x with
  | error e =>
    generalize am_w32 (am_w32 (am_w32 (am_rd M s 6 - 1) * 3) + w) = p
    by_cases p0 : p < 0
    · rw [if_pos p0]; exact ⟨M, rfl, h⟩
    · rw [if_neg p0, sx_k5 sx hK, sx_ia sx, ax_gt, sx_ln sx]
      by_cases p1 : p < 72
      · rw [if_pos p1, sx_5 sx, ax_gi (by omega) p1]
        exact ⟨_, rfl, pe_wr t h (Or.inr (Or.inr ⟨by omega, by omega⟩)) (by omega)⟩
      · rw [if_neg p1]; exact ⟨M, rfl, h⟩
  | ok c =>
    have h : PC M0 s T c M := h
    have n1 := hn c rfl
    have n2 := h.nl2
    have e : am_w32 (am_w32 (am_w32 (am_rd M s 6 - 1) * 3) + w) = 3 * ((c.nl : Int) - 1) + w := by
      rw [h.nl, ax_w32 (x := (c.nl : Int) - 1) (by omega) (by omega), ax_w32 (x := ((c.nl : Int) - 1) * 3) (by omega) (by omega), ax_w32 (by omega) (by omega)]; omega
    rw [e, if_neg (by omega), sx_k5 sx hK, sx_ia sx, ax_gt, sx_ln sx, if_pos (by omega), sx_5 sx, ax_gi (by omega) (by omega)]
    refine ⟨_, rfl, ?_⟩
    show PC M0 s T (cSet w v c) _
    have w' : ∀ y i, y ≠ s + 5 → am_rd (am_wr M (s + 5) (3 * ((c.nl : Int) - 1) + w) v) y i = am_rd M y i := fun y i q => if_neg fun r => q r.1
    refine ⟨sx_wa sx hK (by omega) (by omega), rd_wr h.fr9 (Or.inr (Or.inr ⟨by omega, by omega⟩)), ?_, h.lt, ?_, ?_, ?_, h.nc3, CST_congr h.cs fun i _ _ => ?_, ?_, h.nl2, fun k k0 k1 => ?_, fun k k0 k1 => ?_, fun k k0 k1 => ?_, up_wr h.nm⟩
    · exact (w' _ _ (by omega)).trans h.at_
    · exact (w' _ _ (by omega)).trans h.law
    · exact (w' _ _ (by omega)).trans h.ft
    · exact (w' _ _ (by omega)).trans h.nc
    · exact w' _ _ (by omega)
    · exact (w' _ _ (by omega)).trans h.nl
    · exact (w' _ _ (by omega)).trans (h.lf k k0 k1)
    · exact (w' _ _ (by omega)).trans (h.ll k k0 k1)
    · exact (w' _ _ (by omega)).trans (h.kd k k0 k1)
theorem tx_55 (t : TK M0 s T K N P) (h : PX M0 s T x M) {k : Int} : ∃ M', am_Call d 55 [(2, s), (0, k)] M = some (0, M') ∧ PX M0 s T (x.map (cCls k)) M' := by
  have sx := t.sx
  have hK := PX_K h
  have s0 := sx
  unfold sxt at s0
  rw [aq_55, sx_o sx, ax_gt]
  cases x with
  | error e =>
    have h : PE M0 s e M := h
    by_cases h1 : am_rd M s 6 < 0
    · rw [if_pos h1]; exact ⟨M, rfl, h⟩
    · rw [if_neg h1]
      by_cases h2 : am_rd M s 6 < 24
      · rw [if_pos h2, sx_k4 sx hK, sx_4 sx, ax_gi (by omega) (by omega)]
        refine ⟨_, rfl, ?_⟩
        exact pe_wr t (pe_wr t h (Or.inr (Or.inr ⟨by omega, by omega⟩)) (by omega)) (Or.inr (Or.inl ⟨rfl, by omega⟩)) (by omega)
      · rw [if_neg h2]; exact ⟨M, rfl, h⟩
  | ok c =>
    have h : PC M0 s T c M := h
    show ∃ M', _ ∧ PC M0 s T (cCls k c) M'
    rw [h.nl, if_neg (show ¬ (c.nl : Int) < 0 by omega)]
    unfold cCls
    by_cases h2 : c.nl < 24
    · rw [if_pos h2, if_pos (show (c.nl : Int) < 24 by omega), sx_k4 sx hK, sx_4 sx, ax_gi (by omega) (by omega)]
      refine ⟨_, rfl, ?_⟩
      have hK1 : ax_K (am_wr M (s + 4) (c.nl : Int) k) := sx_wa sx hK (by omega) (by omega)
      rw [show am_rd (am_wr M (s + 4) (c.nl : Int) k) s 6 = (c.nl : Int) from (ax_wc (by omega)).trans h.nl, ax_w32 (by omega) (by omega)]
      have w : ∀ y i, ¬ (y = s ∧ i = 6) → y ≠ s + 4 → am_rd (am_wr (am_wr M (s + 4) (c.nl : Int) k) s 6 ((c.nl : Int) + 1)) y i = am_rd M y i := fun y i q r => by
        rw [ax_rw, if_neg q, ax_rw, if_neg fun z => r z.1]
      refine ⟨sx_wf sx hK1 (by decide), rd_wr (rd_wr h.fr9 (Or.inr (Or.inr ⟨by omega, by omega⟩))) (Or.inr (Or.inl ⟨rfl, by decide⟩)), ?_, h.lt, ?_, ?_, ?_, h.nc3, CST_congr h.cs fun i _ _ => ?_, ax_ws, h2, fun k k0 k1 => ?_, fun k k0 k1 => ?_, fun j j0 j1 => ?_, fun k k0 k1 => ?_⟩
      · exact (w _ _ (by omega) (by omega)).trans h.at_
      · exact (w _ _ (by omega) (by omega)).trans h.law
      · exact (w _ _ (by omega) (by omega)).trans h.ft
      · exact (w _ _ (by omega) (by omega)).trans h.nc
      · exact w _ _ (by omega) (by omega)
      · exact (w _ _ (by omega) (by omega)).trans (h.lf k k0 k1)
      · exact (w _ _ (by omega) (by omega)).trans (h.ll k k0 k1)
      · rw [ax_wc (by omega)]; exact up_wr h.kd j j0 j1
      · exact (w _ _ (by omega) (by omega)).trans (h.nm k k0 k1)
    · rw [if_neg h2, if_neg (show ¬ (c.nl : Int) < 24 by omega)]
      exact ⟨M, rfl, h⟩
/-- whether a name may stand in a law -/
def nmL (l n : Int) : Int := if n = 17 then (if l = 1 then 1 else if l = 2 then 1 else 0) else if n = 18 then (if l = 1 then 1 else 0) else if n = 19 then (if l = 1 then 1 else 0) else if n ≤ 16 then 1 else if l = 3 then 1 else 0
theorem tx_46 {n : Int} : am_Call d 46 [(2, 420), (0, n)] M = some (nmL (am_rd M 420 5) n, M) := by
  rw [aq_46]
  unfold nmL
  rw [aq_46_12, aq_46_23, aq_46_39, ax_o_420, ax_gt, ax_gt, ax_gt]
  repeat' split
  all_goals first | rfl | (exfalso; omega)
end
