/-! a reader's small methods, 2 -/
section
variable {M0 : am_M} {s : Int} {T : Nat} {K N P : Int → Int} {d : Nat} {M : am_M} {c : CS} {x : CX} {e : Int × Int}
def cAdv (c : CS) : CS := .mk (c.at_ + 1) c.law c.cs c.lf c.lt c.kd c.nm c.nl
def cPush (z : cd) (c : CS) : CS := if c.cs.length < 300 then .mk c.at_ c.law (z :: c.cs) c.lf c.lt c.kd c.nm c.nl else c
theorem pe_wr (t : TK M0 s T K N P) (h : PE M0 s e M) {y i v : Int} (hy : tcl s y i) (h8 : ¬ (y = 420 ∧ (i = 8 ∨ i = 9))) : PE M0 s e (am_wr M y i v) := by
  have sx := t.sx
  refine ⟨?_, rd_wr h.fr hy, ?_, h.f0, ?_⟩
  · rcases hy with ⟨rfl, hi⟩ | ⟨rfl, hi⟩ | ⟨h1, h2⟩
    · exact r_wr h.hK hi
    · exact sx_wf sx h.hK hi
    · exact sx_wa sx h.hK h1 h2
  · rw [ax_rw, if_neg (by omega)]; exact h.ft
  · rw [ax_rw, if_neg (by omega)]; exact h.pl
theorem adv (t : TK M0 s T K N P) (h : PX M0 s T x M) (hk : tk K x ≠ 44) : PX M0 s T (x.map cAdv) (am_wr M 420 4 (am_w32 (am_rd M 420 4 + 1))) := by
  have sx := t.sx
  have T2 := t.T2
  cases x with
  | error e => exact pe_wr t h (Or.inl ⟨rfl, by decide⟩) (by omega)
  | ok c =>
    have h : PC M0 s T c M := h
    have l := h.lt
    have e := t.e c.at_ (by omega) (by omega)
    have hl : c.at_ + 1 < T := by
      have : ¬ (c.at_ : Int) + 1 = (T : Int) := fun q => hk (e.mpr q)
      omega
    rw [h.at_, ax_w32 (by omega) (by omega)]
    unfold sxt at sx
    have w : ∀ y i, ¬ (y = 420 ∧ i = 4) → am_rd (am_wr M 420 4 ((c.at_ : Int) + 1)) y i = am_rd M y i := fun y i q => if_neg q
    refine ⟨r_wr h.hK (by decide), rd_wr h.fr9 (Or.inl ⟨rfl, by decide⟩), ?_, hl, ?_, ?_, ?_, h.nc3, CST_congr h.cs fun i _ _ => ?_, ?_, h.nl2, fun k k0 k1 => ?_, fun k k0 k1 => ?_, fun k k0 k1 => ?_, fun k k0 k1 => ?_⟩
    · rw [ax_ws]; show _ = ((c.at_ + 1 : Nat) : Int); omega
    · exact (w _ _ (by omega)).trans h.law
    · exact (w _ _ (by omega)).trans h.ft
    · exact (w _ _ (by omega)).trans h.nc
    · exact w _ _ (by omega)
    · exact (w _ _ (by omega)).trans h.nl
    · exact (w _ _ (by omega)).trans (h.lf k k0 k1)
    · exact (w _ _ (by omega)).trans (h.ll k k0 k1)
    · exact (w _ _ (by omega)).trans (h.kd k k0 k1)
    · exact (w _ _ (by omega)).trans (h.nm k k0 k1)
theorem tx_54 (t : TK M0 s T K N P) (h : PX M0 s T x M) {z : cd} {v : Int} (hv : v = lx_enc z) : ∃ M', am_Call d 54 [(2, s), (0, v)] M = some (0, M') ∧ PX M0 s T (x.map (cPush z)) M' := by
  have sx := t.sx
  have hK := PX_K h
  have s0 := sx
  unfold sxt at s0
  rw [aq_54, sx_o sx, ax_gt]
  cases x with
  | error e =>
    have h : PE M0 s e M := h
    by_cases h1 : am_rd M s 1 < 0
    · rw [if_pos h1]; exact ⟨M, rfl, h⟩
    · rw [if_neg h1]
      by_cases h2 : am_rd M s 1 < 300
      · rw [if_pos h2, sx_k0 sx hK, sx_1 sx, ax_gi (by omega) (by omega)]
        refine ⟨_, rfl, ?_⟩
        exact pe_wr t (pe_wr t h (Or.inr (Or.inr ⟨by omega, by omega⟩)) (by omega)) (Or.inr (Or.inl ⟨rfl, by omega⟩)) (by omega)
      · rw [if_neg h2]; exact ⟨M, rfl, h⟩
  | ok c =>
    have h : PC M0 s T c M := h
    have l := h.lt
    have n3 := h.nc3
    show ∃ M', _ ∧ PC M0 s T (cPush z c) M'
    rw [h.nc, if_neg (show ¬ (c.cs.length : Int) < 0 by omega)]
    unfold cPush
    by_cases h2 : c.cs.length < 300
    · rw [if_pos h2, if_pos (show (c.cs.length : Int) < 300 by omega), sx_k0 sx hK, sx_1 sx, ax_gi (by omega) (by omega)]
      refine ⟨_, rfl, ?_⟩
      have hK1 : ax_K (am_wr M (s + 1) (c.cs.length : Int) v) := sx_wa sx hK (by omega) (by omega)
      rw [show am_rd (am_wr M (s + 1) (c.cs.length : Int) v) s 1 = (c.cs.length : Int) from (ax_wc (by omega)).trans h.nc, ax_w32 (by omega) (by omega)]
      have w : ∀ y i, ¬ (y = s ∧ i = 1) → ¬ (y = s + 1 ∧ i = (c.cs.length : Int)) → am_rd (am_wr (am_wr M (s + 1) (c.cs.length : Int) v) s 1 ((c.cs.length : Int) + 1)) y i = am_rd M y i := fun y i q r => by
        rw [ax_rw, if_neg q, ax_rw, if_neg r]
      refine ⟨sx_wf sx hK1 (by decide), rd_wr (rd_wr h.fr9 (Or.inr (Or.inr ⟨by omega, by omega⟩))) (Or.inr (Or.inl ⟨rfl, by decide⟩)), ?_, h.lt, ?_, ?_, ?_, ?_, ⟨?_, CST_congr h.cs fun i i0 i1 => ?_⟩, ?_, h.nl2, fun k k0 k1 => ?_, fun k k0 k1 => ?_, fun k k0 k1 => ?_, fun k k0 k1 => ?_⟩
      · exact (w _ _ (by omega) (by omega)).trans h.at_
      · exact (w _ _ (by omega) (by omega)).trans h.law
      · exact (w _ _ (by omega) (by omega)).trans h.ft
      · exact ax_ws
      · exact h2
      · rw [ax_wc (by omega), ax_ws, hv]
      · exact w _ _ (by omega) (by omega)
      · exact (w _ _ (by omega) (by omega)).trans h.nl
      · exact (w _ _ (by omega) (by omega)).trans (h.lf k k0 k1)
      · exact (w _ _ (by omega) (by omega)).trans (h.ll k k0 k1)
      · exact (w _ _ (by omega) (by omega)).trans (h.kd k k0 k1)
      · exact (w _ _ (by omega) (by omega)).trans (h.nm k k0 k1)
    · rw [if_neg h2, if_neg (show ¬ (c.cs.length : Int) < 300 by omega)]
      exact ⟨M, rfl, h⟩
end
