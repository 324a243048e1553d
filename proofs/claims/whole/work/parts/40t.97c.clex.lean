/-! the model's next token -/
def q_fK (B : Int → Int) (L : Nat) (l : List (Nat × Nat)) (j : Int) : Int := if j.toNat < l.length then q_K B L (l.getD j.toNat (L, L)) else 44
def q_fN (B : Int → Int) (L : Nat) (l : List (Nat × Nat)) (j : Int) : Int := if j.toNat < l.length then q_N B (l.getD j.toNat (L, L)) else 0
def q_fP (L : Nat) (l : List (Nat × Nat)) (j : Int) : Int := (((l.getD j.toNat (L, L)).1 : Nat) : Int)
def q_fS (B : Int → Int) (L : Nat) (l : List (Nat × Nat)) (j : Int) : Int := if j.toNat < l.length then q_So B (l.getD j.toNat (L, L)) else 0
def q_fI (B : Int → Int) (L : Nat) (l : List (Nat × Nat)) (i0 j : Int) : Int := if j < 0 then i0 else if j.toNat < l.length then q_Is B L (l.getD j.toNat (L, L)) else if l.length = 0 then i0 else q_Is B L (l.getD (l.length - 1) (L, L))
def q_fQ (L : Nat) (l : List (Nat × Nat)) (j : Int) : Int := ((q_Q L 0 l j.toNat : Nat) : Int)
theorem q_nx {N0 : am_M} {d L : Nat} {B : Int → Int} {l : List (Nat × Nat)} {i0 : Int} (h14 : am_rd N0 447 14 = (L : Int)) (L3 : L ≤ 300) (hb : ∀ j : Nat, j < L → am_rd N0 450 j = q_b (B j) ∧ 0 ≤ B j ∧ B j < 256) (hl : q_tl B L 0 l) : NX N0 (l.length + 1) (q_fS B L l) (q_fI B L l i0) (q_fP L l) (q_fQ L l) d := by
  intro j M hj hK fr h15 h18
  have hm : q_m L B M := ⟨hK, (fr 447 14 (by unfold mcl; omega)).trans h14, L3, fun j hj => ⟨(fr 450 j (by unfold mcl; omega)).trans (hb j hj).1, (hb j hj).2⟩⟩
  have tl := q_tl_drop l 0 hl j (by omega)
  have h15' : am_rd M 447 15 = ((q_Q L 0 l j : Nat) : Int) := h15
  have j1 : ((j : Int) + 1).toNat = j + 1 := by omega
  have j0 : ((j : Int)).toNat = j := by omega
  by_cases z : j < l.length
  · have g : l.getD j (L, L) = l[j] := by rw [List.getD_eq_getElem?_getD, List.getElem?_eq_getElem z]; rfl
    rw [List.drop_eq_getElem_cons z] at tl
    obtain ⟨⟨a1, a2, a3, a4⟩, b, c⟩ := tl
    obtain ⟨M1, f1, f2, f3, f4⟩ := q_1 (d := d) (q := l[j].1) (by omega) (fun _ => a4) (l[j].1 - q_Q L 0 l j) (q_Q L 0 l j) M (by omega) a3 hm h15'
    obtain ⟨M2, g1, g2, g3, g4, g5, g6, g7⟩ := q_29 (d := d) (e := l[j].2) f2 a2 f3 b
    refine ⟨M2, by rw [aq_194, f1]; exact g1, g2.1, fun x i h => (g7 x i h).trans (f4 x i (by omega)), ?_, ?_, ?_, ?_⟩
    · rw [g3]; unfold q_fQ; rw [j1]
      show _ = (((l.getD j (L, L)).2 : Nat) : Int)
      rw [g]
    · rw [g4]; unfold q_fP; rw [j0, g]
    · rw [g5]; unfold q_fS; rw [j0, if_pos z, g]
    · rw [g6]; unfold q_fI; rw [if_neg (by omega), j0, if_pos z, g]
  · have e : l.drop j = [] := List.drop_eq_nil_of_le (by omega)
    rw [e] at tl
    obtain ⟨a1, a2⟩ := tl
    have g : ∀ k, l.length ≤ k → l.getD k (L, L) = (L, L) := fun k hk => by rw [List.getD_eq_getElem?_getD, List.getElem?_eq_none hk]; rfl
    obtain ⟨M1, f1, f2, f3, f4⟩ := q_1 (d := d) (q := L) (by omega) (fun h => by omega) (L - q_Q L 0 l j) (q_Q L 0 l j) M (by omega) a2 hm h15'
    obtain ⟨M2, g1, g2, g4, g5, g7⟩ := q_29e (d := d) f2 f3
    refine ⟨M2, by rw [aq_194, f1]; exact g1, g2.1, fun x i h => (g7 x i (by omega)).trans (f4 x i (by omega)), ?_, ?_, ?_, ?_⟩
    · rw [g7 _ _ (by omega), f3]; unfold q_fQ; rw [j1]
      show _ = (((l.getD j (L, L)).2 : Nat) : Int)
      rw [g j (by omega)]
    · rw [g4]; unfold q_fP; rw [j0, g j (by omega)]
    · rw [g5]; unfold q_fS; rw [j0, if_neg z]
    · rw [g7 _ _ (by omega), f4 _ _ (by omega), h18]
      unfold q_fI
      by_cases y : l.length = 0
      · rw [if_pos (by omega), if_neg (by omega), j0, if_neg z, if_pos y]
      · have z2 : ¬ ((j : Int) - 1 < 0) := by omega
        have z3 : ¬ ((j : Int) < 0) := by omega
        have e3 : ((j : Int) - 1).toNat = l.length - 1 := by omega
        have z4 : l.length - 1 < l.length := by omega
        rw [if_neg z2, e3, if_pos z4, if_neg z3, j0, if_neg z, if_neg y]
theorem q_K44 {B : Int → Int} {L : Nat} {t : Nat × Nat} : q_K B L t ≠ 44 := by
  unfold q_K
  split
  · rcases q_fw_s (r := q_rl B t.1 (t.2 - t.1)) 29 0 (by omega) with ⟨k, _, hk, e, _⟩ | ⟨e, _⟩
    · rw [e]; omega
    · rw [e]; decide
  · split
    · decide
    · unfold q_cs
      split
      · split <;> decide
      · rcases q_wi_sg (x := B t.1) with ⟨a, _⟩ | ⟨a, b, _⟩
        · rw [a]; decide
        · split
          · decide
          · omega
theorem q_C {B : Int → Int} {L : Nat} {l : List (Nat × Nat)} {i0 : Int} (hB : ∀ j : Nat, j < L → 0 ≤ B j ∧ B j < 256) (hl : q_tl B L 0 l) : ∀ j : Nat, j < l.length + 1 → cor (q_fK B L l j) (q_fN B L l j) (q_fS B L l j) (q_fI B L l i0 j) := by
  intro j hj
  have j0 : ((j : Int)).toNat = j := by omega
  unfold q_fK q_fN q_fS q_fI
  rw [j0]
  by_cases z : j < l.length
  · have tl := q_tl_drop l 0 hl j (by omega)
    have g : l.getD j (L, L) = l[j] := by rw [List.getD_eq_getElem?_getD, List.getElem?_eq_getElem z]; rfl
    rw [List.drop_eq_getElem_cons z] at tl
    obtain ⟨⟨a1, a2, a3, a4⟩, b, c⟩ := tl
    rw [if_pos z, if_pos z, if_pos z, if_neg (by omega), if_pos z, g]
    exact q_cor hB a2 b
  · rw [if_neg z, if_neg z, if_neg z]
    exact Or.inr (Or.inr (Or.inr (Or.inl ⟨rfl, rfl⟩)))
/-! the developers' String constants -/
theorem q_f6 : ∀ i : Fin 143, am_u16 (am_and (q_W (i.val : Int)) 255) = q_W (i.val : Int) ∧ 0 ≤ q_W (i.val : Int) ∧ q_W (i.val : Int) < 256 := by decide +kernel
theorem q_f7 : ∀ i : Fin 256, q_wi (am_str 0) 0 (am_i8 (i.val : Int)) = q_wi (am_str 0) 0 (i.val : Int) := by decide +kernel
theorem q_f8 : am_shr ((am_str 1).length : Int) 0 = 143 ∧ am_shr ((am_str 0).length : Int) 0 = 11 ∧ (am_str 1).length = 143 ∧ (am_str 0).length = 11 := by decide +kernel
section
variable {d L : Nat} {B : Int → Int} {M : am_M} {q e : Nat}
theorem k_169 : am_Call d 169 [(2, (-2 - 1))] M = some (143, M) := by
  rw [aq_169, aq_100]
  show some (am_shr ((am_str 1).length : Int) 0, M) = _
  rw [q_f8.1]
theorem k_169s : am_Call d 169 [(2, (-2 - 0))] M = some (11, M) := by
  rw [aq_169, aq_100]
  show some (am_shr ((am_str 0).length : Int) 0, M) = _
  rw [q_f8.2.1]
theorem k_104 {x0 x1 : Int} : am_Call d 104 [(0, x0), (0, x1), (4, 0)] M = (if x0 < 0 then (am_Ex d 104 6 [(0, x0), (0, x1), (4, 0)] [] M) else (if x0 < x1 then (some (x0, M)) else (am_Ex d 104 6 [(0, x0), (0, x1), (4, 0)] [] M))) := by
  show am_Ex d 104 0 [(0, x0), (0, x1), (4, 0)] [] M = _
  refine (am_e0 rfl rfl).trans ?_
  refine (am_z_lt rfl).trans (am_if_congr (fun c101 => ?_) (fun c101 => ?_))
  · exact (am_e5 rfl).trans rfl
  · refine (am_e0 rfl rfl).trans ?_
    refine (am_e0 rfl rfl).trans ?_
    refine (am_i_lt rfl).trans (am_if_congr (fun c102 => ?_) (fun c102 => ?_))
    · refine (am_e5 rfl).trans ?_
      show am_Ex d 104 12 [(0, x0), am_N, am_N] [] M = _
      refine (am_e0 rfl rfl).trans ?_
      exact (am_e4i rfl rfl).trans rfl
    · exact (am_e5 rfl).trans rfl
theorem k_233 {i : Int} (h0 : 0 ≤ i) (h1 : i < 143) : am_Call d 233 [(2, (-2 - 1)), (0, i)] M = some (q_W i, M) := by
  have f := q_f6 ⟨i.toNat, by omega⟩
  have f : am_u16 (am_and (q_W (i.toNat : Int)) 255) = q_W (i.toNat : Int) ∧ 0 ≤ q_W (i.toNat : Int) ∧ q_W (i.toNat : Int) < 256 := f
  rw [show ((i.toNat : Nat) : Int) = i by omega] at f
  have e206 : am_Call d 206 [(2, -6), (0, i)] M = some (q_W i, M) := by
    rw [aq_206, aq_170, k_104]
    show Option.bind (Option.bind (if i < 0 then _ else if i < ((am_str 1).length : Int) then _ else _) _) _ = _
    rw [if_neg (by omega), if_pos (by rw [q_f8.2.2.1]; omega)]
    show am_g (true && (decide (0 ≤ i) && decide (i < ((am_str 1).length : Int)))) (am_g (decide (0 ≤ am_u16 (am_and (q_W i) 255)) && decide (am_u16 (am_and (q_W i) 255) < 65536)) (some (am_u16 (am_and (q_W i) 255), M))) = _
    rw [Bool.true_and, ax_gi h0 (by rw [q_f8.2.2.1]; omega), f.1, ax_gi f.2.1 (by omega)]
  rw [aq_233, aq_101]
  show ((am_Call d 206 [(2, -6), (0, i)] M).bind fun r104 => am_g (decide (0 ≤ r104.1) && decide (r104.1 < 65536)) (some (r104.1, r104.2))) = _
  rw [e206, Option.bind_some, ax_gi f.2.1 (by omega)]
theorem k_103 {y : Int} : ∀ (m v : Nat), v + m = 11 → am_Ex d 103 6 [(2, -5), am_N, am_N, (0, 11), (0, y), (0, (v : Int))] [] M = some (q_wi ((am_str 0).drop v) (v : Int) y, M) := by
  intro m
  induction m with
  | zero =>
    intro v hv
    have : (am_str 0).drop v = [] := List.drop_eq_nil_of_le (by rw [q_f8.2.2.2]; omega)
    rw [aq_103_6, if_neg (by omega), this]
    rfl
  | succ m ih =>
    intro v hv
    have hlt : v < (am_str 0).length := by rw [q_f8.2.2.2]; omega
    rw [aq_103_6, if_pos (by omega)]
    show am_g (true && (decide (0 ≤ (v : Int)) && decide ((v : Int) < ((am_str 0).length : Int)))) (if (am_str 0).getD ((v : Int)).toNat 0 = y then _ else _) = _
    have g : (am_str 0).getD ((v : Int)).toNat 0 = (am_str 0)[v] := by rw [show ((v : Int)).toNat = v by omega, List.getD_eq_getElem?_getD, List.getElem?_eq_getElem hlt]; rfl
    rw [Bool.true_and, ax_gi (by omega) (by omega), g, List.drop_eq_getElem_cons hlt]
    show _ = some (if y = (am_str 0)[v] then (v : Int) else q_wi ((am_str 0).drop (v + 1)) ((v : Int) + 1) y, M)
    by_cases z : (am_str 0)[v] = y
    · rw [if_pos z, if_pos z.symm]
    · rw [if_neg z, if_neg fun h => z h.symm, ax_let, ax_w32 (by omega) (by omega)]
      exact ih (v + 1) (by omega)
theorem k_234 {x : Int} (h0 : 0 ≤ x) (h1 : x < 256) : am_Call d 234 [(2, (-2 - 0)), (0, x)] M = some (q_wi (am_str 0) 0 x, M) := by
  have f := q_f7 ⟨x.toNat, by omega⟩
  have f : q_wi (am_str 0) 0 (am_i8 (x.toNat : Int)) = q_wi (am_str 0) 0 (x.toNat : Int) := f
  rw [show ((x.toNat : Nat) : Int) = x by omega] at f
  have e103 : am_Call d 103 [(2, -5), (0, x), (0, 0), (0, 11)] M = some (q_wi (am_str 0) 0 x, M) := by
    rw [aq_103, ax_let, ← f]
    exact k_103 11 0 rfl
  have e171 : am_Call d 171 [(2, -5), (0, x), (0, 0), (0, 11)] M = some (q_wi (am_str 0) 0 x, M) := by
    rw [aq_171, aq_102, if_neg (by omega), if_pos (by omega), Option.bind_some]
    dsimp only
    rw [if_neg (by decide), ax_let, ax_let]
    show am_g true (if max (0 : Int) 0 < min 11 ((am_str 0).length : Int) then ((am_Call d 103 [(2, -5), (0, x), (0, max 0 0), (0, min 11 ((am_str 0).length : Int))] M).bind fun r107 => some (r107.1, r107.2)) else some (-1, M)) = _
    rw [ax_gt, q_f8.2.2.2, show max (0 : Int) 0 = 0 from rfl, show min (11 : Int) ((11 : Nat) : Int) = 11 from rfl, if_pos (by decide), e103]
    rfl
  have e205 : am_Call d 205 [(2, (-2 - 0)), (0, x), (0, 0)] M = some (q_wi (am_str 0) 0 x, M) := by
    rw [aq_205, aq_101]
    show ((am_Call d 169 [(2, (-2 - 0))] M).bind fun r105 => (am_Call d 171 [(2, -5), (0, x), (0, 0), (0, r105.1)] r105.2).bind fun r106 => some (r106.1, r106.2)) = _
    rw [k_169s, Option.bind_some]
    dsimp only
    rw [e171]
    rfl
  rw [aq_234]
  show ((am_Call d 205 [(2, (-2 - 0)), (0, x), (0, 0)] M).bind fun r102 => some (r102.1, r102.2)) = _
  rw [e205]
  rfl
theorem k_237 {x y : Int} (h0 : 0 ≤ x) (h1 : x < 256) : am_Call d 237 [(0, x), (0, y)] M = some (if y = 61 ∧ (x = 60 ∨ x = 62) then (if x = 60 then 40 else 41) else if q_wi (am_str 0) 0 x < 0 then 43 else 29 + q_wi (am_str 0) 0 x, M) := by
  have e18 : am_Ex d 237 18 [(0, x), am_N, am_N] [] M = some (if q_wi (am_str 0) 0 x < 0 then 43 else 29 + q_wi (am_str 0) 0 x, M) := by
    rw [aq_237_18, k_234 h0 h1, Option.bind_some]
    dsimp only
    have := q_wi_sg (x := x)
    by_cases z : q_wi (am_str 0) 0 x < 0
    · rw [if_pos z, if_pos z]
    · rw [if_neg z, if_neg z, ax_w32 (by omega) (by omega)]
  have e9 : am_Ex d 237 9 [(0, x), (0, y), am_N] [] M = some (if y = 61 ∧ x = 62 then 41 else if q_wi (am_str 0) 0 x < 0 then 43 else 29 + q_wi (am_str 0) 0 x, M) := by
    rw [aq_237_9, e18]
    by_cases a : y = 61
    · by_cases b : x = 62
      · rw [if_pos a, if_pos b, if_pos ⟨a, b⟩]
      · rw [if_pos a, if_neg b, if_neg (show ¬ (y = 61 ∧ x = 62) from fun h => b h.2)]
    · rw [if_neg a, if_neg (show ¬ (y = 61 ∧ x = 62) from fun h => a h.1)]
  rw [aq_237, e9]
  by_cases a : y = 61
  · by_cases b : x = 60
    · rw [if_pos a, if_pos b, if_pos ⟨a, Or.inl b⟩, if_pos b]
    · rw [if_pos a, if_neg b]
      by_cases c : x = 62
      · rw [if_pos ⟨a, c⟩, if_pos ⟨a, Or.inr c⟩, if_neg b]
      · rw [if_neg (show ¬ (y = 61 ∧ x = 62) from fun h => c h.2), if_neg (show ¬ (y = 61 ∧ (x = 60 ∨ x = 62)) by omega)]
  · rw [if_neg a, if_neg (show ¬ (y = 61 ∧ x = 62) from fun h => a h.1), if_neg (show ¬ (y = 61 ∧ (x = 60 ∨ x = 62)) by omega)]
end
